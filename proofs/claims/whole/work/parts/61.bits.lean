theorem iI_mod256 (a : Int) (k : Nat) (h : k ≤ 24) : (iI a).toInt / 2 ^ k % 256 = a / 2 ^ k % 256 := by
  have e : (iI a).toInt = a.bmod 4294967296 := Int32.toInt_ofInt
  obtain ⟨q, hq⟩ : ∃ q : Int, a.bmod 4294967296 = a + 4294967296 * q := by
    refine ⟨(a.bmod 4294967296 - a) / 4294967296, ?_⟩
    have h2 : (4294967296 : Int) ∣ (a.bmod 4294967296 - a) := by
      have := Int.bmod_emod (x := a) (m := 4294967296)
      exact Int.dvd_of_emod_eq_zero (Int.emod_eq_emod_iff_emod_sub_eq_zero.mp this)
    have := Int.mul_ediv_cancel' h2
    omega
  rw [e, hq]
  have e2 : (4294967296 : Int) = 2 ^ k * (2 ^ (24 - k) * 256) := by
    rw [← Int.mul_assoc, ← Int.pow_add, show k + (24 - k) = 24 by omega]
    rfl
  have hp : (2 : Int) ^ k ≠ 0 := by
    have : (0 : Int) < 2 ^ k := Int.pow_pos (by decide)
    omega
  rw [e2, Int.mul_assoc, Int.add_mul_ediv_left _ _ hp, show (2 : Int) ^ (24 - k) * 256 * q = 256 * (2 ^ (24 - k) * q) by rw [Int.mul_comm (2 ^ (24 - k)) 256, Int.mul_assoc], Int.add_mul_emod_self_left]
theorem iI_shrT (a : Int) (k : Nat) (y : Int32) (hy : ((y &&& 31).toBitVec.smod 32).toNat = k) : iI a >>> (y &&& 31) = iI ((iI a).toInt / 2 ^ k) := by
  have e : (iI a >>> (y &&& 31)).toInt = (iI a).toInt / 2 ^ k := by
    show (BitVec.sshiftRight' (iI a).toBitVec ((y &&& 31).toBitVec.smod 32)).toInt = _
    rw [BitVec.toInt_sshiftRight', hy, Int.shiftRight_eq_div_pow]
    rfl
  rw [← iI_of (iI a >>> (y &&& 31)), e]
theorem iI_shrG (a s : Int) (h : s = 0 ∨ s = 8 ∨ s = 16 ∨ s = 24) : (iI a >>> (iI s &&& 31)) &&& iI 255 = iI (a / 2 ^ s.toNat % 256) := by
  rcases h with rfl | rfl | rfl | rfl
  · rw [iI_shrT a 0 (iI 0) (by decide +kernel), iI_and255, iI_mod256 a 0 (by decide)]; rfl
  · rw [iI_shrT a 8 (iI 8) (by decide +kernel), iI_and255, iI_mod256 a 8 (by decide)]; rfl
  · rw [iI_shrT a 16 (iI 16) (by decide +kernel), iI_and255, iI_mod256 a 16 (by decide)]; rfl
  · rw [iI_shrT a 24 (iI 24) (by decide +kernel), iI_and255, iI_mod256 a 24 (by decide)]; rfl
theorem iI_shr0 (a : Int) : iI a >>> (iI 0 &&& 31) = iI a := by
  rw [iI_shrT a 0 (iI 0) (by decide +kernel), show (2 : Int) ^ 0 = 1 from rfl, Int.ediv_one, iI_of]
theorem wb_get (a : Int) (j : Nat) (h : j < 4) : (wb a).getD j 0 = a / 2 ^ (24 - 8 * (j : Int)).toNat % 256 := by
  obtain rfl | rfl | rfl | rfl : j = 0 ∨ j = 1 ∨ j = 2 ∨ j = 3 := by omega
  · rfl
  · rfl
  · rfl
  · show a % 256 = a / 1 % 256
    rw [Int.ediv_one]
theorem fm_get : ∀ (l : List Int) (q j : Nat), q < l.length → j < 4 → (l.flatMap wb).getD (4 * q + j) 0 = (wb (l.getD q 0)).getD j 0
  | [], q, j, h, _ => absurd h (Nat.not_lt_zero q)
  | x :: t, 0, j, _, hj => by
    rw [List.flatMap_cons, getD_app (by show 4 * 0 + j < 4; omega)]
    rw [show 4 * 0 + j = j by omega]
    rfl
  | x :: t, q + 1, j, h, hj => by
    rw [List.flatMap_cons, List.getD_eq_getElem?_getD, List.getElem?_append_right (by show 4 ≤ 4 * (q + 1) + j; omega), ← List.getD_eq_getElem?_getD]
    have := fm_get t q j (by simp at h; omega) hj
    rw [show 4 * (q + 1) + j - (wb x).length = 4 * q + j by show 4 * (q + 1) + j - 4 = _; omega, this]
    rfl
theorem expo_len4 (n g : Int) (rs : List Int) (mk : Nat) (h : mk ≤ rs.length) : (expo n g rs mk).length = 4 + 4 * mk := by
  rw [expo, List.length_append, expo_len, List.length_take, Nat.min_eq_left h]
  rfl
theorem expo_get {n g : Int} {rs : List Int} {mk k : Nat} (h : mk ≤ rs.length) (hk : k < 4 * mk) : (expo n g rs mk).getD (4 + k) 0 = rs.getD (k / 4) 0 / 2 ^ (24 - 8 * ((k % 4 : Nat) : Int)).toNat % 256 := by
  rw [expo, List.getD_eq_getElem?_getD, List.getElem?_append_right (by show 4 ≤ 4 + k; omega), ← List.getD_eq_getElem?_getD, show 4 + k - [69, n, g, (mk : Int)].length = 4 * (k / 4) + k % 4 by show 4 + k - 4 = _; omega, fm_get _ _ _ (by rw [List.length_take]; omega) (by omega), wb_get _ _ (by omega), getD_take (by omega)]
