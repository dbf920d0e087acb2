/-! rows of the law: the script, longs, equal answers -/
section LR
variable {X : gX} {cc : ByteArray} {own : String} {sh : Nat → Nat × Nat} {rf : Nat → Nat → Option Nat} {mem : Nat → Nat → Int} {cells slots pc : Nat} {lv : List (Option Value)} {st : List Value}
def gScr (X : gX) (b L : Nat) (xs : Nat → Int32) : Prop := match X with
  | (_, _, _, _, s, _, _, _, _, _, _, _, _, A, _) => va_X b L xs s s.heap ∧ b < s.heap.size ∧ ¬ A b
theorem g_sld (hC : gC X cc own) {b L : Nat} {xs : Nat → Int32} (hB : gScr X b L xs) {i : Int} (h0 : 0 ≤ i) (h1 : i < L) (hn : L ≤ 2560) (hd : decode cc pc = .ok (.iaload, 1)) (kk : gG X sh rf mem cells slots (pc + 1) lv (.int (iI (xs i.toNat).toInt) :: st)) : gG X sh rf mem cells slots pc lv (.int (iI i) :: .ref b :: st) := by
  obtain ⟨p, l, e, R, s, m, args, below, meth, c, nL, D, ac, A, Q⟩ := X
  obtain ⟨⟨hx, hb, hml, hown, hts⟩, hK, hA, hN, hO⟩ := hC
  obtain ⟨hX, hbl, hbA⟩ := hB
  intro H locs ls hw hS hl
  refine va_sld hx hb hX hbl hbA hS (iI_in h0 h1 (by omega)) hd ?_
  have kk2 := kk H locs ls hw hS hl
  rw [iI_of] at kk2
  rw [iI_clamp h0 (by omega)]
  exact kk2
theorem g_slen (hC : gC X cc own) {b L : Nat} {xs : Nat → Int32} (hB : gScr X b L xs) (hd : decode cc pc = .ok (.arraylength, 1)) (kk : gG X sh rf mem cells slots (pc + 1) lv (.int (iI L) :: st)) : gG X sh rf mem cells slots pc lv (.ref b :: st) := by
  obtain ⟨p, l, e, R, s, m, args, below, meth, c, nL, D, ac, A, Q⟩ := X
  obtain ⟨⟨hx, hb, hml, hown, hts⟩, hK, hA, hN, hO⟩ := hC
  obtain ⟨hX, hbl, hbA⟩ := hB
  intro H locs ls hw hS hl
  refine va_slen hx hb hX hbl hbA hS hd ?_
  have kk2 := kk H locs ls hw hS hl
  rw [iI_nI] at kk2
  exact kk2
theorem g_ceq (hC : gC X cc own) {x : Int32} {off : Int} {tgt : Nat} (hd : decode cc pc = .ok (.if_icmp .eq off, 3)) (ht : (pc : Int) + off = (tgt : Int)) (k : gG X sh rf mem cells slots tgt lv st) : gG X sh rf mem cells slots pc lv (.int x :: .int x :: st) := by
  obtain ⟨p, l, e, R, s, m, args, below, meth, c, nL, D, ac, A, Q⟩ := X
  obtain ⟨⟨hx, hb, -⟩, -⟩ := hC
  intro H locs ls hw hS hl
  exact lv_icmp_eq hx hb hd ht (fun _ => k H locs ls hw hS hl) (fun q => absurd rfl q)
theorem iI_and31 (a : Int) : iI a &&& iI 31 = iI (a % 32) := by
  obtain ⟨n, hn, e1, e2⟩ := iI_nat a
  have e3 : iI 31 = nI 31 := by decide
  rw [e2, e3, iI_mod (a % 32)]
  have e4 : (a % 32) % 4294967296 = ((n % 32 : Nat) : Int) := by omega
  rw [e4, iI_nI]
  apply Int32.toBitVec_inj.mp
  show BitVec.ofNat 32 n &&& BitVec.ofNat 32 31 = BitVec.ofNat 32 (n % 32)
  apply BitVec.eq_of_toNat_eq
  rw [BitVec.toNat_and, BitVec.toNat_ofNat, BitVec.toNat_ofNat, BitVec.toNat_ofNat, Nat.mod_eq_of_lt (show n < 2 ^ 32 from hn), Nat.mod_eq_of_lt (show 31 < 2 ^ 32 by decide), Nat.mod_eq_of_lt (show n % 32 < 2 ^ 32 by omega)]
  exact Nat.and_two_pow_sub_one_eq_mod n 5
theorem g_i2l (hC : gC X cc own) {v : Int} (hv : inR v) (hd : decode cc pc = .ok (.i2l, 1)) (k : gG X sh rf mem cells slots (pc + 1) lv (.long (Int64.ofInt v) :: st)) : gG X sh rf mem cells slots pc lv (.int (iI v) :: st) := by
  obtain ⟨p, l, e, R, s, m, args, below, meth, c, nL, D, ac, A, Q⟩ := X
  obtain ⟨⟨hx, hb, -⟩, -⟩ := hC
  intro H locs ls hw hS hl
  refine lv_i2l hx hb hd ?_ (k H locs ls hw hS hl)
  apply Int64.toInt_inj.mp
  rw [Int32.toInt_toInt64, iI_toInt hv, Int64.toInt_ofInt_of_le (by have := hv.1; omega) (by have := hv.2; omega)]
theorem g_lald (hC : gC X cc own) {a n : Nat} {i : Int} (hs : sh a = (14, n)) (h0 : 0 ≤ i) (h1 : i < n) (hn : n < 2147483648) (hd : decode cc pc = .ok (.laload, 1)) (kk : gG X sh rf mem cells slots (pc + 1) lv (.long (Int64.ofInt (mem a i.toNat)) :: st)) : gG X sh rf mem cells slots pc lv (.int (iI i) :: .ref a :: st) := by
  obtain ⟨p, l, e, R, s, m, args, below, meth, c, nL, D, ac, A, Q⟩ := X
  obtain ⟨⟨hx, hb, hml, hown, hts⟩, hK, hA, hN, hO⟩ := hC
  rintro H locs ls ⟨L, hL, hP, hD⟩ hS hl
  obtain ⟨q0, hq⟩ := gW_get (D := D) (A := A) (H := H) (rf := rf) (mem := mem) (ac := ac) hL (a := a) (by rw [hs]; simp)
  rw [gE_l hs] at hq
  refine va_lald hx hb hK hP q0 3 hq rfl (iI_in h0 h1 hn) hd ?_
  rw [iI_clamp h0 (by omega)]
  exact kk H locs ls ⟨L, hL, hP, hD⟩ hS hl
theorem g_last (hC : gC X cc own) {a n : Nat} {i v : Int} (hs : sh a = (14, n)) (h0 : 0 ≤ i) (h1 : i < n) (hn : n < 2147483648) (hd : decode cc pc = .ok (.lastore, 1)) (kk : gG X sh rf (gup mem a i.toNat v) cells slots (pc + 1) lv st) : gG X sh rf mem cells slots pc lv (.long (Int64.ofInt v) :: .int (iI i) :: .ref a :: st) := by
  obtain ⟨p, l, e, R, s, m, args, below, meth, c, nL, D, ac, A, Q⟩ := X
  obtain ⟨⟨hx, hb, hml, hown, hts⟩, hK, hA, hN, hO⟩ := hC
  rintro H locs ls ⟨L, hL, hP, hD⟩ hS hl
  have hz : (sh a).1 ≠ 0 := by rw [hs]; simp
  obtain ⟨q0, hq⟩ := gW_get (D := D) (A := A) (H := H) (rf := rf) (mem := mem) (ac := ac) hL hz
  have hq1 := hq
  rw [gE_l hs] at hq1
  refine va_last hx hb hK hP hD hS q0 3 hq1 rfl (iI_in h0 h1 hn) hd (fun H1 locs1 hP1 hD1 hS1 => ?_)
  rw [iI_clamp h0 (by omega)] at hP1 hD1
  exact kk H1 locs1 ls (gW_set hL hD hq hz (fun b => gE_upL hs b) hP1 hD1) hS1 hl
theorem g_lcmpE (hC : gC X cc own) {x : Int64} (hd : decode cc pc = .ok (.lcmp, 1)) (k : gG X sh rf mem cells slots (pc + 1) lv (.int (iI 0) :: st)) : gG X sh rf mem cells slots pc lv (.long x :: .long x :: st) := by
  obtain ⟨p, l, e, R, s, m, args, below, meth, c, nL, D, ac, A, Q⟩ := X
  obtain ⟨⟨hx, hb, -⟩, -⟩ := hC
  intro H locs ls hw hS hl
  refine W.lcmp hx hb hd ?_
  have e1 : lg_cmp x x = iI 0 := by
    have : lg_cmp x x = 0 := by simp [lg_cmp]
    rw [this]; rfl
  rw [e1]
  exact k H locs ls hw hS hl
theorem g_newl (hC : gC X cc own) (hcl : cells + 1 ≤ (gRm X).cells) (hsl : slots + 1 ≤ (gRm X).slots) (hd : decode cc pc = .ok (.newarray .long, 2)) (kk : ∀ q sh1 rf1 mem1, (sh q).1 = 0 → sh1 = va_up sh q (14, 1) → rf1 = va_up rf q (fun _ => none) → mem1 = va_up mem q (fun _ => 0) → gG X sh1 rf1 mem1 (cells + 1) (slots + 1) (pc + 2) lv (.ref q :: st)) : gG X sh rf mem cells slots pc lv (.int (iI 1) :: st) := by
  obtain ⟨p, l, e, R, s, m, args, below, meth, c, nL, D, ac, A, Q⟩ := X
  obtain ⟨⟨hx, hb, hml, hown, hts⟩, hK, hA, hN, hO⟩ := hC
  rintro H locs ls ⟨L, hL, hP, hD⟩ hS hl
  refine va_newa (atype := .long) (a0 := (1, .inr (.inl (fun _ => Int64.ofInt 0)))) hx hb (hts _ arr_long) rfl hK hP hD hS hA (fun cA => by rw [vp_cell_l]; rfl) (iI_not_neg (by decide) (by decide)) (iI_clamp (by decide) (by decide)) (by decide) hcl hsl hd (fun q cA H1 hK1 hP1 hD1 hS1 => ?_)
  have h6 := (hK1.2 6 (cA, .long) rfl).2
  have hcA : cA = ac 14 := Option.some.inj ((va_nm_long h6).symm.trans (va_nm_long (hK.2 3 _ rfl).2))
  obtain ⟨h1, h2⟩ := gW_push (c := 14) (n := 1) hL (by decide) (gE_new (by rw [gE_l (n := 1) (va_up_self _ _ _), va_up_self, hcA])) hP1 hD1
  exact kk q _ _ _ h1 rfl rfl rfl H1 locs ls h2 hS1 hl
end LR
