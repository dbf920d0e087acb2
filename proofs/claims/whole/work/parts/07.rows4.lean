/-! rows: new cells, copies, references stored -/
theorem iI_byte {w : Int} (h1 : -128 ≤ w) (h2 : w < 128) : (iI w).toInt8.toInt32 = iI w := by
  apply Int32.toInt_inj.mp
  rw [Int8.toInt_toInt32, iI_toInt ⟨by omega, by omega⟩]
  unfold iI
  rw [Int32.toInt8_ofInt, Int8.toInt_ofInt_of_le (by omega) (by omega)]
theorem gW_push {D : va_G} {ac : Nat → ClassId} {A : Nat → Prop} {sh : Nat → Nat × Nat} {rf : Nat → Nat → Option Nat} {mem : Nat → Nat → Int} {H : Heap} {L : List Nat} {q c n : Nat} {e : va_E} (hL : ∀ a, a ∈ L ↔ (sh a).1 ≠ 0) (hc : c ≠ 0) (he : ∀ b, va_up (gE ac sh rf mem) q e b = gE ac (va_up sh q (c, n)) (va_up rf q (fun _ => none)) (va_up mem q (fun _ => 0)) b) (hP : va_P D vwCl (va_pl L (gE ac sh rf mem) ++ [(q, e)]) H) (hD : va_D A (va_pl L (gE ac sh rf mem) ++ [(q, e)])) : (sh q).1 = 0 ∧ gW D ac A (va_up sh q (c, n)) (va_up rf q (fun _ => none)) (va_up mem q (fun _ => 0)) H := by
  have hq : q ∉ L := va_pl_fresh2 (X := []) hD
  have h0 : (sh q).1 = 0 := Classical.byContradiction fun h => hq ((hL q).mpr h)
  have e1 : va_pl L (gE ac sh rf mem) ++ [(q, e)] = va_pl (L ++ [q]) (gE ac (va_up sh q (c, n)) (va_up rf q (fun _ => none)) (va_up mem q (fun _ => 0))) := (va_pl_push hq).trans (va_pl_congr he)
  rw [e1] at hP hD
  refine ⟨h0, L ++ [q], fun a => ?_, hP, hD⟩
  rw [List.mem_append, List.mem_singleton]
  by_cases ha : a = q
  · subst ha
    simp [va_up_self, hc]
  · rw [va_up_ne _ _ ha, hL a]
    simp [ha]
theorem gE_new {ac : Nat → ClassId} {sh : Nat → Nat × Nat} {rf : Nat → Nat → Option Nat} {mem : Nat → Nat → Int} {q c n : Nat} {e : va_E} (he : gE ac (va_up sh q (c, n)) (va_up rf q (fun _ => none)) (va_up mem q (fun _ => 0)) q = e) (b : Nat) : va_up (gE ac sh rf mem) q e b = gE ac (va_up sh q (c, n)) (va_up rf q (fun _ => none)) (va_up mem q (fun _ => 0)) b := by
  by_cases hb : b = q
  · subst hb
    rw [va_up_self, he]
  · rw [va_up_ne _ _ hb]
    exact (gE_ne (va_up_ne _ _ hb) (va_up_ne _ _ hb) (va_up_ne _ _ hb)).symm
/-- a class that is made: its link, its fields' first values -/
def gNe (own : String) (idx ci N : Nat) : Prop := ∃ (C : String) (T : u_T) (tf : Nat → FieldType), vwCl[ci]? = some (C, T, N) ∧ (∀ w ∈ u_ws C T N, w ∈ wG) ∧ (∀ j, j < N → parseFieldDescriptor (T j).2.2.1 = some (tf j)) ∧ Cond.classLink own idx C ∈ wG ∧ Cond.instantiable C N ∈ wG ∧ Cond.initialized C ∈ wG ∧ (∀ j, j < N → defaultValue (tf j) = vp_V (gfs (fun _ => none) (fun _ => 0) 0 (gfl ci)) j) ∧ ci ≠ 0 ∧ ci ≤ 10
section GR4
variable {X : gX} {cc : ByteArray} {own : String} {sh : Nat → Nat × Nat} {rf : Nat → Nat → Option Nat} {mem : Nat → Nat → Int} {cells slots pc : Nat} {lv : List (Option Value)} {st : List Value}
theorem g_new (hC : gC X cc own) {idx ci N : Nat} (F : gNe own idx ci N) (hcl : cells + 1 ≤ (gRm X).cells) (hsl : slots + N ≤ (gRm X).slots) (hd : decode cc pc = .ok (.new idx, 3)) (kk : ∀ q, (sh q).1 = 0 → gG X (va_up sh q (ci, 0)) (va_up rf q (fun _ => none)) (va_up mem q (fun _ => 0)) (cells + 1) (slots + N) (pc + 3) lv (.ref q :: st)) : gG X sh rf mem cells slots pc lv st := by
  obtain ⟨p, l, e, R, s, m, args, below, meth, c, nL, D, ac, A, Q⟩ := X
  obtain ⟨⟨hx, hb, hml, hown, hts⟩, hK, hA, hN, hO⟩ := hC
  obtain ⟨C, T, tf, hc, hin, hty, hlk, hinst, hini, hdef, hci, hci2⟩ := F
  rintro H locs ls ⟨L, hL, hP, hD⟩ hS hl
  refine va_new (ci := ci) (fs := gfs (fun _ => none) (fun _ => 0) 0 (gfl ci)) hx hb hts hin tf hty hown (hts _ hlk) (hts _ hinst) (hts _ hini) hK hP hD hS hA hc hdef hcl hsl hd (fun q H1 hP1 hD1 hS1 => ?_)
  obtain ⟨h1, h2⟩ := gW_push hL hci (gE_new (by rw [gE_o (c := ci) (n := 0) (va_up_self _ _ _) hci2, va_up_self, va_up_self])) hP1 hD1
  exact kk q h1 H1 locs ls h2 hS1 hl
theorem g_newa (hC : gC X cc own) {atype : ArrayType} {ty : FieldType} {kd t0 : Nat} {n : Int} (harr : Cond.arrayClass (newarray.typeOf atype) ∈ wG) (hty : newarray.typeOf atype = ty) (hkt : (kd = 11 ∧ ty = .byte ∧ t0 = 0) ∨ (kd = 12 ∧ ty = .int ∧ t0 = 1) ∨ (kd = 13 ∧ ty = .boolean ∧ t0 = 2)) (h0 : 0 ≤ n) (hn : n < 100000) (hcl : cells + 1 ≤ (gRm X).cells) (hsl : slots + n.toNat ≤ (gRm X).slots) (hd : decode cc pc = .ok (.newarray atype, 2)) (kk : ∀ q, (sh q).1 = 0 → gG X (va_up sh q (kd, n.toNat)) (va_up rf q (fun _ => none)) (va_up mem q (fun _ => 0)) (cells + 1) (slots + n.toNat) (pc + 2) lv (.ref q :: st)) : gG X sh rf mem cells slots pc lv (.int (iI n) :: st) := by
  obtain ⟨p, l, e, R, s, m, args, below, meth, c, nL, D, ac, A, Q⟩ := X
  obtain ⟨⟨hx, hb, hml, hown, hts⟩, hK, hA, hN, hO⟩ := hC
  rintro H locs ls ⟨L, hL, hP, hD⟩ hS hl
  have hdv : defaultValue ty = .int (iI 0) := by rcases hkt with ⟨-, rfl, -⟩ | ⟨-, rfl, -⟩ | ⟨-, rfl, -⟩ <;> rfl
  have hcb : componentBytes ty ≤ 4 := by rcases hkt with ⟨-, rfl, -⟩ | ⟨-, rfl, -⟩ | ⟨-, rfl, -⟩ <;> decide
  refine va_newa (a0 := (n.toNat, .inl (fun _ => iI 0))) hx hb (hts _ harr) hty hK hP hD hS hA (fun cA => by rw [vp_cell_i, hdv]) (iI_not_neg h0 (by omega)) (iI_clamp h0 (by omega)) (Nat.le_trans (Nat.mul_le_mul (Nat.le_refl _) hcb) (by omega)) hcl hsl hd (fun q cA H1 hK1 hP1 hD1 hS1 => ?_)
  have h6 := (hK1.2 6 (cA, ty) rfl).2
  have hcA : cA = ac kd := by
    rcases hkt with ⟨rfl, rfl, rfl⟩ | ⟨rfl, rfl, rfl⟩ | ⟨rfl, rfl, rfl⟩
    · exact Option.some.inj ((va_nm_byte h6).symm.trans (va_nm_byte (hK.2 0 _ rfl).2))
    · exact Option.some.inj ((va_nm_int h6).symm.trans (va_nm_int (hK.2 1 _ rfl).2))
    · exact Option.some.inj ((va_nm_boolean h6).symm.trans (va_nm_boolean (hK.2 2 _ rfl).2))
  have hk1 : 10 < kd := by omega
  have hk2 : kd < 14 := by omega
  obtain ⟨h1, h2⟩ := gW_push (c := kd) (n := n.toNat) hL (by omega) (gE_new (by rw [gE_i (c := kd) (n := n.toNat) (va_up_self _ _ _) hk1 hk2, va_up_self, hcA])) hP1 hD1
  exact kk q h1 H1 locs ls h2 hS1 hl
theorem g_newq (hC : gC X cc own) {idx kd : Nat} {C : String} {n : Int} (hlk : Cond.classLink own idx C ∈ wG) (hkt : (kd = 15 ∧ C = RX4) ∨ (kd = 16 ∧ C = RX6)) (h0 : 0 ≤ n) (hn : n < 100000) (hcl : cells + 1 ≤ (gRm X).cells) (hsl : slots + n.toNat ≤ (gRm X).slots) (hd : decode cc pc = .ok (.anewarray idx, 3)) (kk : ∀ q, (sh q).1 = 0 → gG X (va_up sh q (kd, n.toNat)) (va_up rf q (fun _ => none)) (va_up mem q (fun _ => 0)) (cells + 1) (slots + n.toNat) (pc + 3) lv (.ref q :: st)) : gG X sh rf mem cells slots pc lv (.int (iI n) :: st) := by
  obtain ⟨p, l, e, R, s, m, args, below, meth, c, nL, D, ac, A, Q⟩ := X
  obtain ⟨⟨hx, hb, hml, hown, hts⟩, hK, hA, hN, hO⟩ := hC
  rintro H locs ls ⟨L, hL, hP, hD⟩ hS hl
  have hov : va_AO C s := by
    rcases hkt with ⟨-, rfl⟩ | ⟨-, rfl⟩
    · exact hO.1
    · exact hO.2
  refine va_newq (C := C) hx hb hown (hts _ hlk) hov hK hP hD hS hA (iI_not_neg h0 (by omega)) (iI_clamp h0 (by omega)) (by omega) hcl hsl hd (fun q cA H1 hK1 hP1 hD1 hS1 => ?_)
  obtain ⟨_, _, _, _, _, h6⟩ := (hK1.2 6 (cA, .object C) rfl).2
  have hcA : cA = ac kd := by
    rcases hkt with ⟨rfl, rfl⟩ | ⟨rfl, rfl⟩
    · obtain ⟨_, _, _, _, _, h7⟩ := (hK.2 4 _ rfl).2
      exact Option.some.inj (h6.symm.trans h7)
    · obtain ⟨_, _, _, _, _, h7⟩ := (hK.2 5 _ rfl).2
      exact Option.some.inj (h6.symm.trans h7)
  obtain ⟨h1, h2⟩ := gW_push (c := kd) (n := n.toNat) hL (by omega) (gE_new (by rw [gE_q (c := kd) (n := n.toNat) (va_up_self _ _ _) (by omega), va_up_self, hcA])) hP1 hD1
  exact kk q h1 H1 locs ls h2 hS1 hl
theorem g_aast (hC : gC X cc own) {a v n ci n2 kd : Nat} {i : Int} (hs : sh a = (kd, n)) (hk : (kd = 15 ∧ ci = 4) ∨ (kd = 16 ∧ ci = 6)) (hv : sh v = (ci, n2)) (h0 : 0 ≤ i) (h1 : i < n) (hn : n < 2147483648) (hd : decode cc pc = .ok (.aastore, 1)) (kk : gG X sh (gur rf a i.toNat (some v)) mem cells slots (pc + 1) lv st) : gG X sh rf mem cells slots pc lv (.ref v :: .int (iI i) :: .ref a :: st) := by
  obtain ⟨p, l, e, R, s, m, args, below, meth, c, nL, D, ac, A, Q⟩ := X
  obtain ⟨⟨hx, hb, hml, hown, hts⟩, hK, hA, hN, hO⟩ := hC
  rintro H locs ls ⟨L, hL, hP, hD⟩ hS hl
  have hz : (sh a).1 ≠ 0 := by rw [hs]; rcases hk with ⟨rfl, -⟩ | ⟨rfl, -⟩ <;> simp
  have hzv : (sh v).1 ≠ 0 := by rw [hv]; rcases hk with ⟨-, rfl⟩ | ⟨-, rfl⟩ <;> simp
  obtain ⟨q0, hq⟩ := gW_get (D := D) (A := A) (H := H) (rf := rf) (mem := mem) (ac := ac) hL hz
  obtain ⟨qk, hqk⟩ := gW_get (D := D) (A := A) (H := H) (rf := rf) (mem := mem) (ac := ac) hL hzv
  have hq1 := hq
  rw [gE_q hs (by omega)] at hq1
  rw [gE_o hv (by omega)] at hqk
  rcases hk with ⟨rfl, rfl⟩ | ⟨rfl, rfl⟩
  · refine va_astq (r := (RX4, TX4, 4)) hx hb hK hP hD hS q0 4 qk 4 hq1 rfl hqk rfl (iI_in h0 h1 hn) hd (fun H1 locs1 hP1 hD1 hS1 => ?_)
    rw [iI_clamp h0 (by omega)] at hP1 hD1
    exact kk H1 locs1 ls (gW_set hL hD hq hz (fun b => gE_upQ hs (by decide) b) hP1 hD1) hS1 hl
  · refine va_astq (r := (RX6, TX6, 5)) hx hb hK hP hD hS q0 5 qk 6 hq1 rfl hqk rfl (iI_in h0 h1 hn) hd (fun H1 locs1 hP1 hD1 hS1 => ?_)
    rw [iI_clamp h0 (by omega)] at hP1 hD1
    exact kk H1 locs1 ls (gW_set hL hD hq hz (fun b => gE_upQ hs (by decide) b) hP1 hD1) hS1 hl
theorem g_aastN (hC : gC X cc own) {a n kd : Nat} {i : Int} (hs : sh a = (kd, n)) (hk : kd = 15 ∨ kd = 16) (h0 : 0 ≤ i) (h1 : i < n) (hn : n < 2147483648) (hd : decode cc pc = .ok (.aastore, 1)) (kk : gG X sh (gur rf a i.toNat none) mem cells slots (pc + 1) lv st) : gG X sh rf mem cells slots pc lv (.null :: .int (iI i) :: .ref a :: st) := by
  obtain ⟨p, l, e, R, s, m, args, below, meth, c, nL, D, ac, A, Q⟩ := X
  obtain ⟨⟨hx, hb, hml, hown, hts⟩, hK, hA, hN, hO⟩ := hC
  rintro H locs ls ⟨L, hL, hP, hD⟩ hS hl
  have hz : (sh a).1 ≠ 0 := by rw [hs]; rcases hk with rfl | rfl <;> simp
  obtain ⟨q0, hq⟩ := gW_get (D := D) (A := A) (H := H) (rf := rf) (mem := mem) (ac := ac) hL hz
  have hq1 := hq
  rw [gE_q hs (by omega)] at hq1
  rcases hk with rfl | rfl
  · refine va_astqN (C := RX4) hx hb hK hP hD hS q0 4 hq1 rfl (iI_in h0 h1 hn) hd (fun H1 locs1 hP1 hD1 hS1 => ?_)
    rw [iI_clamp h0 (by omega)] at hP1 hD1
    exact kk H1 locs1 ls (gW_set hL hD hq hz (fun b => gE_upQ hs (by decide) b) hP1 hD1) hS1 hl
  · refine va_astqN (C := RX6) hx hb hK hP hD hS q0 5 hq1 rfl (iI_in h0 h1 hn) hd (fun H1 locs1 hP1 hD1 hS1 => ?_)
    rw [iI_clamp h0 (by omega)] at hP1 hD1
    exact kk H1 locs1 ls (gW_set hL hD hq hz (fun b => gE_upQ hs (by decide) b) hP1 hD1) hS1 hl
theorem g_copy (hC : gC X cc own) {idx a0 a1 n0 n1 kd : Nat} {sp dp n : Int} (hlk : Cond.methodLink own idx arraycopyName ∈ wG) (hnat : Cond.native arraycopyName ∈ wG) (hstat : Cond.static arraycopyName ∈ wG) (hini : Cond.initialized "java/lang/System" ∈ wG) (hs0 : sh a0 = (kd, n0)) (hs1 : sh a1 = (kd, n1)) (hk : kd = 11 ∨ kd = 12) (h1 : 0 ≤ sp) (h2 : 0 ≤ dp) (h3 : 0 ≤ n) (h4 : sp + n ≤ n0) (h5 : dp + n ≤ n1) (hn0 : n0 < 2147483648) (hn1 : n1 < 2147483648) (hfit : kd = 11 → ∀ i, i < n.toNat → -128 ≤ mem a0 (sp.toNat + i) ∧ mem a0 (sp.toNat + i) < 128) (hR : 1 ≤ (gRm X).frames) (hR2 : (st.map fun v => v.category).sum + 18 ≤ (gRm X).locals) (hd : decode cc pc = .ok (.invokestatic idx, 3)) (kk : gG X sh rf (gcp mem a0 sp.toNat a1 dp.toNat n.toNat) cells slots (pc + 3) lv st) : gG X sh rf mem cells slots pc lv (.int (iI n) :: .int (iI dp) :: .ref a1 :: .int (iI sp) :: .ref a0 :: st) := by
  obtain ⟨p, l, e, R, s, m, args, below, meth, c, nL, D, ac, A, Q⟩ := X
  obtain ⟨⟨hx, hb, hml, hown, hts⟩, hK, hA, hN, hO⟩ := hC
  rintro H locs ls ⟨L, hL, hP, hD⟩ hS hl
  have hz0 : (sh a0).1 ≠ 0 := by rw [hs0]; rcases hk with rfl | rfl <;> simp
  have hz1 : (sh a1).1 ≠ 0 := by rw [hs1]; rcases hk with rfl | rfl <;> simp
  obtain ⟨q0, hq0⟩ := gW_get (D := D) (A := A) (H := H) (rf := rf) (mem := mem) (ac := ac) hL hz0
  obtain ⟨q1, hq1⟩ := gW_get (D := D) (A := A) (H := H) (rf := rf) (mem := mem) (ac := ac) hL hz1
  have hq2 := hq1
  rw [gE_i hs0 (by omega) (by omega)] at hq0
  rw [gE_i hs1 (by omega) (by omega)] at hq2
  have hup : ∀ b, va_up (gE ac sh rf mem) a1 (.inl (ac kd, n1, .inl (va_cpy (fun k => iI (mem a0 k)) (fun k => iI (mem a1 k)) sp.toNat dp.toNat n.toNat))) b = gE ac sh rf (gcp mem a0 sp.toNat a1 dp.toNat n.toNat) b := by
    intro b
    by_cases hb1 : b = a1
    · subst hb1
      rw [va_up_self, gE_i hs1 (by omega) (by omega)]
      have e9 : va_cpy (fun k => iI (mem a0 k)) (fun k => iI (mem b k)) sp.toNat dp.toNat n.toNat = fun k => iI (gcp mem a0 sp.toNat b dp.toNat n.toNat b k) := by
        funext k
        by_cases hkk : dp.toNat ≤ k ∧ k < dp.toNat + n.toNat
        · simp only [va_cpy, gcp, true_and, if_pos hkk]
        · simp only [va_cpy, gcp, true_and, if_neg hkk]
      rw [e9]
    · rw [va_up_ne _ _ hb1]
      exact (gE_ne rfl rfl (by funext j; simp [gcp, hb1])).symm
  have k1 : (iI sp).toNatClampNeg = sp.toNat := iI_clamp h1 (by omega)
  have k2 : (iI dp).toNatClampNeg = dp.toNat := iI_clamp h2 (by omega)
  have k3 : (iI n).toNatClampNeg = n.toNat := iI_clamp h3 (by omega)
  have hml2 : c.maxLocals = ls.size := by rw [hml]; exact hl.1.symm
  rcases hk with rfl | rfl
  · refine va_copyi (ty := .byte) hx hb hml2 hown (hts _ hlk) (hts _ hnat) (hts _ hstat) (hts _ hini) hK hP hD hS q0 q1 0 0 hq0 hq2 rfl rfl rfl (iI_not_neg h1 (by omega)) (iI_not_neg h2 (by omega)) (iI_not_neg h3 (by omega)) (by rw [k1, k3]; omega) (by rw [k2, k3]; omega) (fun i hi => ?_) hR hR2 hd (fun H1 locs1 hP1 hD1 hS1 => ?_)
    · rw [k3] at hi
      rw [k1]
      have hf := hfit rfl i hi
      rw [← iI_byte hf.1 hf.2]
      exact pk_fb _
    · rw [k1, k2, k3] at hP1 hD1
      exact kk H1 locs1 ls (gW_set hL hD hq1 hz1 hup hP1 hD1) hS1 hl
  · refine va_copyi (ty := .int) hx hb hml2 hown (hts _ hlk) (hts _ hnat) (hts _ hstat) (hts _ hini) hK hP hD hS q0 q1 1 1 hq0 hq2 rfl rfl rfl (iI_not_neg h1 (by omega)) (iI_not_neg h2 (by omega)) (iI_not_neg h3 (by omega)) (by rw [k1, k3]; omega) (by rw [k2, k3]; omega) (fun i hi => rfl) hR hR2 hd (fun H1 locs1 hP1 hD1 hS1 => ?_)
    rw [k1, k2, k3] at hP1 hD1
    exact kk H1 locs1 ls (gW_set hL hD hq1 hz1 hup hP1 hD1) hS1 hl
end GR4
