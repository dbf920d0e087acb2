/-! Math.max, a switch by keys, bytes and words -/
section GR9
variable {X : gX} {cc : ByteArray} {own : String} {sh : Nat → Nat × Nat} {rf : Nat → Nat → Option Nat} {mem : Nat → Nat → Int} {cells slots pc : Nat} {lv : List (Option Value)} {st : List Value} {M0 : gMd} {d0 mc0 ms0 : Nat} {post0 : gPo}
theorem g_max (hC : gC X cc own) {idx : Nat} {a b : Int} (hlk : Cond.methodLink own idx Lib.Math.max.name ∈ wG) (ha : inR a) (hb0 : inR b) (hR : 1 ≤ (gRm X).frames) (hR2 : (st.map fun v => v.category).sum + 13 ≤ (gRm X).locals) (hc : cells ≤ (gRm X).cells) (hs : slots ≤ (gRm X).slots) (hd : decode cc pc = .ok (.invokestatic idx, 3)) (k : gG X sh rf mem cells slots (pc + 3) lv (.int (iI (if a < b then b else a)) :: st)) : gG X sh rf mem cells slots pc lv (.int (iI b) :: .int (iI a) :: st) := by
  obtain ⟨p, l, e, R, s, m, args, below, meth, c, nL, D, ac, A, Q⟩ := X
  obtain ⟨⟨hx, hb, hml, hown, hts⟩, hK, hA, hN, hO⟩ := hC
  intro H locs ls hw hS hl
  refine va_mmax hx hb (by rw [hml]; exact hl.1.symm) hown (hts _ hlk) (hts _ mx_st) (hts _ mx_in) (hts _ mx_co) hR hR2 hc hs hd ?_
  have e9 : (if iI a < iI b then iI b else iI a) = iI (if a < b then b else a) := by
    by_cases q : a < b
    · rw [if_pos q, if_pos ((iI_lt ha hb0).mpr q)]
    · rw [if_neg q, if_neg (fun z => q ((iI_lt ha hb0).mp z))]
  rw [e9]
  exact k H locs ls hw hS hl
theorem g_lookup (hC : gC X cc own) {a dflt off : Int} {ps : Array (Int × Int)} {len tgt : Nat} (hd : decode cc pc = .ok (.lookupswitch dflt ps, len)) (v : Int) (ha : a = v) (hr : inR v) (hp : (ps.toList.zip (ps.toList.drop 1)).all (fun (a, next) => a.1 < next.1) = true) (ho : Op.lookupswitch.offset ps.toList dflt v = off) (ht : (pc : Int) + off = (tgt : Int)) (k : gG X sh rf mem cells slots tgt lv st) : gG X sh rf mem cells slots pc lv (.int (iI a) :: st) := by
  obtain ⟨p, l, e, R, s, m, args, below, meth, c, nL, D, ac, A, Q⟩ := X
  obtain ⟨⟨hx, hb, -⟩, -⟩ := hC
  subst ha
  exact fun H locs ls hw hS hl => lv_lookup hx hb hd hp (by rw [iI_toInt hr]; exact ho) ht (k H locs ls hw hS hl)
end GR9
/-- a byte of an int, with its sign -/
def sb (v : Int) : Int := (v + 128) % 256 - 128
theorem sb_le (v : Int) : -128 ≤ sb v ∧ sb v < 128 := by unfold sb; omega
theorem sb_u (v : Int) : sb v % 256 = v % 256 := by unfold sb; omega
theorem iI_sb (v : Int) : (iI v).toInt8.toInt32 = iI (sb v) := by
  apply Int32.toInt_inj.mp
  have h := sb_le v
  rw [Int8.toInt_toInt32, iI_toInt ⟨by omega, by omega⟩]
  unfold iI
  rw [Int32.toInt8_ofInt, Int8.toInt_ofInt]
  show Int.bmod v 256 = sb v
  rw [Int.bmod_def]
  unfold sb
  have e1 : ((256 : Nat) : Int) = 256 := rfl
  rw [e1]
  split <;> omega
theorem iI_mod (a : Int) : iI a = iI (a % 4294967296) := by
  have h : (4294967296 : Int) = (4294967296 : Int) := rfl
  have e : a = a % 4294967296 + 4294967296 * (a / 4294967296) := by omega
  have z : iI 4294967296 = 0 := by decide +kernel
  calc iI a = iI (a % 4294967296 + 4294967296 * (a / 4294967296)) := by rw [← e]
    _ = iI (a % 4294967296) + iI 4294967296 * iI (a / 4294967296) := by rw [iI_mul, iI_add]
    _ = iI (a % 4294967296) := by rw [z]; simp
theorem iI_nat (a : Int) : ∃ n : Nat, n < 4294967296 ∧ (n : Int) = a % 4294967296 ∧ iI a = nI n := by
  refine ⟨(a % 4294967296).toNat, by omega, by omega, ?_⟩
  rw [iI_mod a, ← iI_nI]
  congr 1
  omega
theorem iI_and255 (a : Int) : iI a &&& iI 255 = iI (a % 256) := by
  obtain ⟨n, h1, h2, h3⟩ := iI_nat a
  have e : iI 255 = nI 255 := by decide +kernel
  rw [h3, pk_andN (n := n) (by omega) (m := iI 255) 8 (by decide +kernel), ← iI_nI]
  congr 1
  omega
theorem iI_and15 (a : Int) : iI a &&& iI 15 = iI (a % 16) := by
  obtain ⟨n, h1, h2, h3⟩ := iI_nat a
  rw [h3, pk_andN (n := n) (by omega) (m := iI 15) 4 (by decide +kernel), ← iI_nI]
  congr 1
  omega
theorem iI_ushr24 (a : Int) : ((iI a).toUInt32 >>> ((iI 24).toUInt32 &&& Int32.toUInt32 31)).toInt32 = iI (a % 4294967296 / 16777216) := by
  obtain ⟨n, h1, h2, h3⟩ := iI_nat a
  rw [h3, pk_ushrN (by omega) (iI 24) 24 (by decide +kernel), ← iI_nI]
  congr 1
  omega
theorem iI_ushr16 (a : Int) : ((iI a).toUInt32 >>> ((iI 16).toUInt32 &&& Int32.toUInt32 31)).toInt32 = iI (a % 4294967296 / 65536) := by
  obtain ⟨n, h1, h2, h3⟩ := iI_nat a
  rw [h3, pk_ushrN (by omega) (iI 16) 16 (by decide +kernel), ← iI_nI]
  congr 1
  omega
theorem iI_ushr8 (a : Int) : ((iI a).toUInt32 >>> ((iI 8).toUInt32 &&& Int32.toUInt32 31)).toInt32 = iI (a % 4294967296 / 256) := by
  obtain ⟨n, h1, h2, h3⟩ := iI_nat a
  rw [h3, pk_ushrN (by omega) (iI 8) 8 (by decide +kernel), ← iI_nI]
  congr 1
  omega
theorem iI_shr4 {a : Int} (h0 : 0 ≤ a) (h1 : a < 2147483648) : iI a >>> (iI 4 &&& 31) = iI (a / 16) := by
  have e : iI a = nI a.toNat := by rw [← iI_nI, Int.toNat_of_nonneg h0]
  rw [e, pk_shrN (by omega) (iI 4 &&& 31) 4 (by decide +kernel), ← iI_nI]
  congr 1
  omega
theorem nI_or (a b : Nat) : nI a ||| nI b = nI (a ||| b) := by
  apply Int32.toBitVec_inj.1
  show BitVec.ofNat 32 a ||| BitVec.ofNat 32 b = BitVec.ofNat 32 (a ||| b)
  apply BitVec.eq_of_getLsbD_eq
  intro i hi
  simp [hi]
theorem iI_sh24 {a : Int} (h0 : 0 ≤ a) (h1 : a < 256) : iI a <<< (iI 24 &&& 31) = iI (a * 16777216) := by
  have e : iI a = nI a.toNat := by rw [← iI_nI, Int.toNat_of_nonneg h0]
  rw [e, pk_shlN (iI 24 &&& 31) 24 (by decide +kernel) (by omega), ← iI_nI]
  congr 1
  omega
theorem iI_sh16 {a : Int} (h0 : 0 ≤ a) (h1 : a < 256) : iI a <<< (iI 16 &&& 31) = iI (a * 65536) := by
  have e : iI a = nI a.toNat := by rw [← iI_nI, Int.toNat_of_nonneg h0]
  rw [e, pk_shlN (iI 16 &&& 31) 16 (by decide +kernel) (by omega), ← iI_nI]
  congr 1
  omega
theorem iI_sh8 {a : Int} (h0 : 0 ≤ a) (h1 : a < 256) : iI a <<< (iI 8 &&& 31) = iI (a * 256) := by
  have e : iI a = nI a.toNat := by rw [← iI_nI, Int.toNat_of_nonneg h0]
  rw [e, pk_shlN (iI 8 &&& 31) 8 (by decide +kernel) (by omega), ← iI_nI]
  congr 1
  omega
theorem iI_or {a b : Int} (k : Nat) (ha : 0 ≤ a) (hb0 : 0 ≤ b) (hb : b.toNat < 2 ^ k) {c : Int} (hc : c = 2 ^ k * a) : iI c ||| iI b = iI (c + b) := by
  have e1 : iI c = nI (2 ^ k * a.toNat) := by
    rw [← iI_nI, hc]
    congr 1
    rw [Int.natCast_mul, Int.toNat_of_nonneg ha, Int.natCast_pow]
    rfl
  have e2 : iI b = nI b.toNat := by rw [← iI_nI, Int.toNat_of_nonneg hb0]
  rw [e1, e2, nI_or, ← Nat.two_pow_add_eq_or_of_lt hb, ← nI_add, ← e1, ← e2, iI_add]
