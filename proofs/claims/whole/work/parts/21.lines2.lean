/-! Lines, on: what its lines become -/
def Fr4 (mem mem1 : Nat → Nat → Int) (a a0 a1 a2 : Nat) : Prop := ∀ b, b ≠ a → b ≠ a0 → b ≠ a1 → b ≠ a2 → mem1 b = mem b
def ln (xs : Lns) (i : Nat) : Int × List Int := xs.getD i (0, [])
theorem nu_ln (xs : Lns) (i : Nat) : nu xs i = (ln xs i).1 := rfl
theorem sg_ln (xs : Lns) (i : Nat) : sg xs i = (ln xs i).2 := rfl
theorem ln_set {xs : Lns} {i : Nat} (v : Int × List Int) (h : i < xs.length) (j : Nat) : ln (xs.set i v) j = if j = i then v else ln xs j := by
  unfold ln
  rw [List.getD_eq_getElem?_getD, List.getElem?_set, List.getD_eq_getElem?_getD]
  by_cases hj : i = j
  · subst hj
    simp [h]
  · rw [if_neg hj, if_neg (fun q => hj q.symm)]
theorem ln_ins {xs : Lns} {i : Nat} (v : Int × List Int) (h : i ≤ xs.length) (j : Nat) : ln (xs.insertIdx i v) j = if j < i then ln xs j else if j = i then v else ln xs (j - 1) := by
  unfold ln
  rw [List.getD_eq_getElem?_getD, List.getElem?_insertIdx, List.getD_eq_getElem?_getD, List.getD_eq_getElem?_getD]
  split
  · rfl
  · split
    · simp [*]
    · rfl
theorem ln_del {xs : Lns} {i : Nat} (j : Nat) : ln (xs.eraseIdx i) j = if j < i then ln xs j else ln xs (j + 1) := by
  unfold ln
  rw [List.getD_eq_getElem?_getD, List.getElem?_eraseIdx, List.getD_eq_getElem?_getD, List.getD_eq_getElem?_getD]
  split <;> rfl
theorem nu_set {xs : Lns} {i : Nat} (v : Int × List Int) (h : i < xs.length) (j : Nat) : nu (xs.set i v) j = if j = i then v.1 else nu xs j := by
  rw [nu_ln, ln_set v h]
  split <;> rfl
theorem sg_set {xs : Lns} {i : Nat} (v : Int × List Int) (h : i < xs.length) (j : Nat) : sg (xs.set i v) j = if j = i then v.2 else sg xs j := by
  rw [sg_ln, ln_set v h]
  split <;> rfl
theorem nu_ins {xs : Lns} {i : Nat} (v : Int × List Int) (h : i ≤ xs.length) (j : Nat) : nu (xs.insertIdx i v) j = if j < i then nu xs j else if j = i then v.1 else nu xs (j - 1) := by
  rw [nu_ln, ln_ins v h]
  split
  · rfl
  · split <;> rfl
theorem sg_ins {xs : Lns} {i : Nat} (v : Int × List Int) (h : i ≤ xs.length) (j : Nat) : sg (xs.insertIdx i v) j = if j < i then sg xs j else if j = i then v.2 else sg xs (j - 1) := by
  rw [sg_ln, ln_ins v h]
  split
  · rfl
  · split <;> rfl
theorem nu_del {xs : Lns} {i : Nat} (j : Nat) : nu (xs.eraseIdx i) j = if j < i then nu xs j else nu xs (j + 1) := by
  rw [nu_ln, ln_del]
  split <;> rfl
theorem sg_del {xs : Lns} {i : Nat} (j : Nat) : sg (xs.eraseIdx i) j = if j < i then sg xs j else sg xs (j + 1) := by
  rw [sg_ln, ln_del]
  split <;> rfl
/-- a line more signs -/
def lnAdd (xs : Lns) (i : Nat) (c : Int) : Lns := if i < xs.length ∧ (sg xs i).length < 10 then xs.set i (nu xs i, sg xs i ++ [c]) else xs
theorem LnV_add {sh : Nat → Nat × Nat} {rf : Nat → Nat → Option Nat} {mem mem1 : Nat → Nat → Int} {a a0 a1 a2 i : Nat} {c : Int} {xs : Lns} (hO : LnO sh rf a a0 a1 a2) (hi : LnI mem a a0 a1 a2) (hv : LnV mem a a0 a1 a2 xs) (hc : -128 ≤ c ∧ c < 128) (h1 : i < xs.length) (h2 : (sg xs i).length < 10)
    (e1 : mem1 = gup (gup mem a2 (10 * i + (sg xs i).length) c) a1 i ((sg xs i).length + 1)) : LnI mem1 a a0 a1 a2 ∧ LnV mem1 a a0 a1 a2 (lnAdd xs i c) ∧ Fr4 mem mem1 a a0 a1 a2 := by
  obtain ⟨n1, n2, n3, n4, n5, n6⟩ := hO.ne
  obtain ⟨i1, i2, i3, i4, i5⟩ := hi
  obtain ⟨v1, v2⟩ := hv
  subst e1
  have x1 := n1.symm; have x2 := n2.symm; have x3 := n3.symm; have x4 := n4.symm; have x5 := n5.symm; have x6 := n6.symm
  refine ⟨⟨?_, ?_, ?_, ?_, ?_⟩, ⟨?_, ?_⟩, ?_⟩
  · simpa [gup, n2, n3] using i1
  · simpa [gup, n2, n3] using i2
  · intro j
    simpa [gup, n4, n5] using i3 j
  · intro j
    simp only [gup, n6, true_and, false_and, if_false]
    split
    · omega
    · exact i4 j
  · intro j
    simp only [gup, x6, true_and, false_and, if_false]
    split
    · omega
    · exact i5 j
  · rw [lnAdd, if_pos ⟨h1, h2⟩, List.length_set]
    simpa [gup, n2, n3] using v1
  · rw [lnAdd, if_pos ⟨h1, h2⟩, List.length_set]
    intro j hj
    rw [nu_set _ h1, sg_set _ h1]
    obtain ⟨w1, w2, w3⟩ := v2 j hj
    by_cases hji : j = i
    · subst hji
      rw [if_pos rfl, if_pos rfl]
      refine ⟨by simpa [gup, n4, n5] using w1, by simp [gup], fun k hk => ?_⟩
      simp only [gup, x6, true_and, false_and, if_false]
      by_cases hk2 : k = (sg xs j).length
      · subst hk2
        rw [if_pos rfl]
        simp
      · rw [if_neg (by omega)]
        have hk3 : k < (sg xs j).length := by simp at hk; omega
        rw [w3 k hk3]
        simp [List.getD_eq_getElem?_getD, List.getElem?_append_left hk3]
    · rw [if_neg hji, if_neg hji]
      refine ⟨by simpa [gup, n4, n5] using w1, by simpa [gup, n6, hji] using w2, fun k hk => ?_⟩
      have := i4 j
      simp only [gup, x6, true_and, false_and, if_false]
      rw [if_neg (by have : k < (sg xs j).length := hk; omega)]
      exact w3 k hk
  · intro b b1 b2 b3 b4
    funext j
    simp [gup, b3, b4]
theorem gcp_0 (mem : Nat → Nat → Int) (a0 sp a1 dp : Nat) : gcp mem a0 sp a1 dp 0 = mem := by
  funext b j
  simp only [gcp]
  rw [if_neg (by omega)]
/-- all lines from one place on at another place -/
def shf (mem : Nat → Nat → Int) (a0 a1 a2 f t n : Nat) : Nat → Nat → Int := gcp (gcp (gcp mem a0 f a0 t n) a1 f a1 t n) a2 (10 * f) a2 (10 * t) (10 * n)
set_option maxHeartbeats 4000000 in
set_option maxRecDepth 100000 in
theorem kX4_signAt (l : Launch) (D : va_G) (ac : Nat → ClassId) {sh : Nat → Nat × Nat} {rf : Nat → Nat → Option Nat} {mem : Nat → Nat → Int} (a a0 a1 a2 : Nat) (xs : Lns) (i k : Int) (hO : LnO sh rf a a0 a1 a2) (hi : LnI mem a a0 a1 a2) (hv : LnV mem a a0 a1 a2 xs) (hp : inR i) (hk : inR k) : gMet l D ac mX4_signAt 2 [.ref a, .int (iI i), .int (iI k)] 0 0 sh rf mem (pP sh rf mem (fun r => (0 ≤ i ∧ 0 ≤ k ∧ k < (sg xs i.toNat).length ∧ r = (sg xs i.toNat).getD k.toNat 0) ∨ (¬ (0 ≤ i ∧ 0 ≤ k ∧ k < (sg xs i.toNat).length) ∧ r = -1))) := by
  refine gMet.mk (by decide) (by intro v hv; simp at hv; (try rcases hv with rfl | rfl | rfl) <;> rfl) (Nat.le_of_ble_eq_true rfl) (fun X hC hI => ?_)
  show gG X sh rf mem 0 0 0 [some (.ref a), some (.int (iI i)), some (.int (iI k))] []
  have hO9 := hO
  have hi9 := hi
  have hv9 := hv
  have hp9 := hp
  obtain ⟨ho, hr0, hr1, hr2, hs0, hs1, hs2, hne⟩ := hO
  obtain ⟨hn1, hn2, hin, hil, hib⟩ := hi
  obtain ⟨hp1, hp2⟩ := hp
  obtain ⟨hk1, hk2⟩ := hk
  obtain ⟨hv1, hv2⟩ := hv
  have hso : xs.length ≤ i.toNat → (sg xs i.toNat).length = 0 := fun h => by rw [sg_out h]; rfl
  have hsl : (sg xs i.toNat).length ≤ 10 := by
    by_cases q : i.toNat < xs.length
    · have := (hv2 i.toNat q).2.1
      have := hil i.toNat
      omega
    · have := hso (by omega)
      omega
  refine g_iload_n hC dX4_signAt_0 rfl ?_
  refine g_if_lt (tgt := 27) hC dX4_signAt_1 (by decide) ⟨by omega, by omega⟩ (fun h1 => ?_) (fun h1 => ?_)
  · refine g_iconst hC dX4_signAt_27 ?_
    refine g_iret hC hI rfl dX4_signAt_28 (Nat.le_of_ble_eq_true rfl) (Nat.le_of_ble_eq_true rfl) ⟨rfl, rfl, rfl, _, rfl, ?_⟩
    first | (left; exact ⟨by omega, by omega, by omega, by rw [q3]; exact q2⟩) | (right; exact ⟨by omega, rfl⟩)
  · refine g_iload_n hC dX4_signAt_4 rfl ?_
    refine g_aload_n hC dX4_signAt_5 rfl ?_
    refine g_iload_n hC dX4_signAt_6 rfl ?_
    refine g_VP hC (kX4_lengthAt (gl X) (gD X) (gac X) a a0 a1 a2 xs i hO9 hi9 hv9 hp9) cvX4_lengthAt lkX4_30 (by assumption) rfl rfl (Nat.le_of_ble_eq_true rfl) (hI.fit (Nat.le_of_ble_eq_true rfl) (Nat.le_of_ble_eq_true rfl) (Nat.le_of_ble_eq_true rfl)) dX4_signAt_7 (fun x7 hx7 => ?_)
    refine g_icmp_ge (tgt := 27) hC dX4_signAt_10 (by decide) ⟨by omega, by omega⟩ ⟨by omega, by omega⟩ (fun h10 => ?_) (fun h10 => ?_)
    · refine g_iconst hC dX4_signAt_27 ?_
      refine g_iret hC hI rfl dX4_signAt_28 (Nat.le_of_ble_eq_true rfl) (Nat.le_of_ble_eq_true rfl) ⟨rfl, rfl, rfl, _, rfl, ?_⟩
      first | (left; exact ⟨by omega, by omega, by omega, by rw [q3]; exact q2⟩) | (right; exact ⟨by omega, rfl⟩)
    · refine g_aload_n hC dX4_signAt_13 rfl ?_
      refine g_getR hC fdX4_18 (by assumption) (by assumption) dX4_signAt_14 ?_
      have q0 : 0 ≤ i := by omega
      have q1 : i.toNat < xs.length := by
        apply Classical.byContradiction
        intro q
        have := hso (by omega)
        omega
      have q2 := (hv2 i.toNat q1).2.2 k.toNat (by omega)
      have q3 : (i * 10 + k).toNat = 10 * i.toNat + k.toNat := by omega
      refine g_iload_n hC dX4_signAt_17 rfl ?_
      refine g_bipush hC dX4_signAt_18 (by decide +kernel) ?_
      refine g_imul hC dX4_signAt_20 ?_
      refine g_iload_n hC dX4_signAt_21 rfl ?_
      refine g_iadd hC dX4_signAt_22 ?_
      refine g_bald hC (by assumption) (by omega) (by omega) (by decide) dX4_signAt_23 ?_
      refine g_goto (tgt := 28) hC dX4_signAt_24 (by decide) ?_
      refine g_iret hC hI rfl dX4_signAt_28 (Nat.le_of_ble_eq_true rfl) (Nat.le_of_ble_eq_true rfl) ⟨rfl, rfl, rfl, _, rfl, ?_⟩
      first | (left; exact ⟨by omega, by omega, by omega, by rw [q3]; exact q2⟩) | (right; exact ⟨by omega, rfl⟩)
set_option maxHeartbeats 4000000 in
set_option maxRecDepth 100000 in
theorem kX4_hasNumber (l : Launch) (D : va_G) (ac : Nat → ClassId) {sh : Nat → Nat × Nat} {rf : Nat → Nat → Option Nat} {mem : Nat → Nat → Int} (a a0 a1 a2 : Nat) (xs : Lns) (n : Int) (hO : LnO sh rf a a0 a1 a2) (hi : LnI mem a a0 a1 a2) (hv : LnV mem a a0 a1 a2 xs) (hp : inR n) : gMet l D ac mX4_hasNumber 2 [.ref a, .int (iI n)] 0 0 sh rf mem (pP sh rf mem (fun r => (r = 1 ∧ nu xs (plc xs n) = n) ∨ (r = 0 ∧ nu xs (plc xs n) ≠ n))) := by
  refine gMet.mk (by decide) (by intro v hv; simp at hv; (try rcases hv with rfl | rfl) <;> rfl) (Nat.le_of_ble_eq_true rfl) (fun X hC hI => ?_)
  show gG X sh rf mem 0 0 0 [some (.ref a), some (.int (iI n))] []
  have hO9 := hO
  have hi9 := hi
  have hv9 := hv
  have hp9 := hp
  have hle := plc_le n xs
  obtain ⟨ho, hr0, hr1, hr2, hs0, hs1, hs2, hne⟩ := hO
  obtain ⟨hn1, hn2, hin, hil, hib⟩ := hi
  obtain ⟨hp1, hp2⟩ := hp
  obtain ⟨hv1, hv2⟩ := hv
  have hnr : 0 ≤ nu xs (plc xs n) ∧ nu xs (plc xs n) ≤ 9999 := by
    by_cases q : plc xs n < xs.length
    · have := (hv2 _ q).1
      have := hin (plc xs n)
      omega
    · rw [nu_out (by omega)]; omega
  refine g_aload_n hC dX4_hasNumber_0 rfl ?_
  refine g_aload_n hC dX4_hasNumber_1 rfl ?_
  refine g_iload_n hC dX4_hasNumber_2 rfl ?_
  refine g_VP hC (kX4_placeFor (gl X) (gD X) (gac X) a a0 a1 a2 xs n hO9 hi9 hv9 hp9) cvX4_placeFor lkX4_34 (by assumption) rfl rfl (Nat.le_of_ble_eq_true rfl) (hI.fit (Nat.le_of_ble_eq_true rfl) (Nat.le_of_ble_eq_true rfl) (Nat.le_of_ble_eq_true rfl)) dX4_hasNumber_3 (fun x3 hx3 => ?_)
  subst hx3
  refine g_VP hC (kX4_numberAt (gl X) (gD X) (gac X) a a0 a1 a2 xs (plc xs n) hO9 hi9 hv9 ⟨by omega, by omega⟩) cvX4_numberAt lkX4_37 (by assumption) rfl rfl (Nat.le_of_ble_eq_true rfl) (hI.fit (Nat.le_of_ble_eq_true rfl) (Nat.le_of_ble_eq_true rfl) (Nat.le_of_ble_eq_true rfl)) dX4_hasNumber_6 (fun x6 hx6 => ?_)
  rw [Int.toNat_natCast] at hx6
  refine g_iload_n hC dX4_hasNumber_9 rfl ?_
  refine g_icmp_ne (tgt := 17) hC dX4_hasNumber_10 (by decide) ⟨by omega, by omega⟩ ⟨by omega, by omega⟩ (fun h10 => ?_) (fun h10 => ?_)
  · refine g_iconst hC dX4_hasNumber_17 ?_
    refine g_zret hC hI rfl (by decide +kernel) dX4_hasNumber_18 (Nat.le_of_ble_eq_true rfl) (Nat.le_of_ble_eq_true rfl) ⟨rfl, rfl, rfl, _, rfl, ?_⟩
    omega
  · refine g_iconst hC dX4_hasNumber_13 ?_
    refine g_goto (tgt := 18) hC dX4_hasNumber_14 (by decide) ?_
    refine g_zret hC hI rfl (by decide +kernel) dX4_hasNumber_18 (Nat.le_of_ble_eq_true rfl) (Nat.le_of_ble_eq_true rfl) ⟨rfl, rfl, rfl, _, rfl, ?_⟩
    omega
set_option maxHeartbeats 4000000 in
set_option maxRecDepth 100000 in
theorem kX4_addSignAt (l : Launch) (D : va_G) (ac : Nat → ClassId) {sh : Nat → Nat × Nat} {rf : Nat → Nat → Option Nat} {mem : Nat → Nat → Int} (a a0 a1 a2 : Nat) (xs : Lns) (i c : Int) (hO : LnO sh rf a a0 a1 a2) (hi : LnI mem a a0 a1 a2) (hv : LnV mem a a0 a1 a2 xs) (hp : inR i) (hc : 32 ≤ c ∧ c ≤ 126) : gMet l D ac mX4_addSignAt 1 [.ref a, .int (iI i), .int (iI c)] 0 0 sh rf mem (pV sh rf (fun mem1 => LnI mem1 a a0 a1 a2 ∧ LnV mem1 a a0 a1 a2 (if 0 ≤ i then lnAdd xs i.toNat c else xs) ∧ Fr4 mem mem1 a a0 a1 a2)) := by
  refine gMet.mk (by decide) (by intro v hv; simp at hv; (try rcases hv with rfl | rfl | rfl) <;> rfl) (Nat.le_of_ble_eq_true rfl) (fun X hC hI => ?_)
  show gG X sh rf mem 0 0 0 [some (.ref a), some (.int (iI i)), some (.int (iI c))] []
  have hO9 := hO
  have hi9 := hi
  have hv9 := hv
  have hp9 := hp
  obtain ⟨ho, hr0, hr1, hr2, hs0, hs1, hs2, hne⟩ := hO
  obtain ⟨hn1, hn2, hin, hil, hib⟩ := hi
  obtain ⟨hp1, hp2⟩ := hp
  obtain ⟨hv1, hv2⟩ := hv
  refine g_aload_n hC dX4_addSignAt_0 rfl ?_
  refine g_iload_n hC dX4_addSignAt_1 rfl ?_
  refine g_VP hC (kX4_has (gl X) (gD X) (gac X) a a0 a1 a2 i hO9 hi9 hp9) cvX4_has lkX4_26 (by assumption) rfl rfl (Nat.le_of_ble_eq_true rfl) (hI.fit (Nat.le_of_ble_eq_true rfl) (Nat.le_of_ble_eq_true rfl) (Nat.le_of_ble_eq_true rfl)) dX4_addSignAt_2 (fun x2 hx2 => ?_)
  refine g_if_eq (tgt := 47) hC dX4_addSignAt_5 (by decide) ⟨by omega, by omega⟩ (fun h5 => ?_) (fun h5 => ?_)
  · refine g_vret hC hI rfl dX4_addSignAt_47 (Nat.le_of_ble_eq_true rfl) (Nat.le_of_ble_eq_true rfl) ⟨rfl, rfl, rfl, ?_⟩
    first
      | (have e : (if 0 ≤ i then lnAdd xs i.toNat c else xs) = xs := by
           split
           · rw [lnAdd, if_neg (by omega)]
           · rfl
         rw [e]; exact ⟨hi9, hv9, fun b _ _ _ _ => rfl⟩)
      | (rw [if_pos (by omega)]
         refine LnV_add hO9 hi9 hv9 ⟨by omega, by omega⟩ q1 (by omega) ?_
         rw [show (i * 10 + mem a1 i.toNat).toNat = 10 * i.toNat + (sg xs i.toNat).length by omega]
         have x6 : a1 ≠ a2 := hO9.ne.2.2.2.2.2
         rw [gup_a _ _ _ _ x6, q2])
  · refine g_aload_n hC dX4_addSignAt_8 rfl ?_
    refine g_getR hC fdX4_15 (by assumption) (by assumption) dX4_addSignAt_9 ?_
    refine g_iload_n hC dX4_addSignAt_12 rfl ?_
    refine g_iald hC (by assumption) (by omega) (by omega) (by decide) dX4_addSignAt_13 ?_
    have q1 : i.toNat < xs.length := by omega
    have q2 := (hv2 i.toNat q1).2.1
    have q3 := hil i.toNat
    refine g_bipush hC dX4_addSignAt_14 (by decide +kernel) ?_
    refine g_icmp_ge (tgt := 47) hC dX4_addSignAt_16 (by decide) ⟨by omega, by omega⟩ ⟨by omega, by omega⟩ (fun h16 => ?_) (fun h16 => ?_)
    · refine g_vret hC hI rfl dX4_addSignAt_47 (Nat.le_of_ble_eq_true rfl) (Nat.le_of_ble_eq_true rfl) ⟨rfl, rfl, rfl, ?_⟩
      first
        | (have e : (if 0 ≤ i then lnAdd xs i.toNat c else xs) = xs := by
             split
             · rw [lnAdd, if_neg (by omega)]
             · rfl
           rw [e]; exact ⟨hi9, hv9, fun b _ _ _ _ => rfl⟩)
        | (rw [if_pos (by omega)]
           refine LnV_add hO9 hi9 hv9 ⟨by omega, by omega⟩ q1 (by omega) ?_
           rw [show (i * 10 + mem a1 i.toNat).toNat = 10 * i.toNat + (sg xs i.toNat).length by omega]
           have x6 : a1 ≠ a2 := hO9.ne.2.2.2.2.2
           rw [gup_a _ _ _ _ x6, q2])
    · refine g_aload_n hC dX4_addSignAt_19 rfl ?_
      refine g_getR hC fdX4_18 (by assumption) (by assumption) dX4_addSignAt_20 ?_
      refine g_iload_n hC dX4_addSignAt_23 rfl ?_
      refine g_bipush hC dX4_addSignAt_24 (by decide +kernel) ?_
      refine g_imul hC dX4_addSignAt_26 ?_
      refine g_aload_n hC dX4_addSignAt_27 rfl ?_
      refine g_getR hC fdX4_15 (by assumption) (by assumption) dX4_addSignAt_28 ?_
      refine g_iload_n hC dX4_addSignAt_31 rfl ?_
      refine g_iald hC (by assumption) (by omega) (by omega) (by decide) dX4_addSignAt_32 ?_
      refine g_iadd hC dX4_addSignAt_33 ?_
      refine g_iload_n hC dX4_addSignAt_34 rfl ?_
      refine g_i2b hC dX4_addSignAt_35 ?_
      refine g_topI (iI_byte (by omega) (by omega)) ?_
      refine g_bast (w := c) hC (by assumption) (by omega) (by omega) (by decide) (iI_byte (by omega) (by omega)) dX4_addSignAt_36 ?_
      refine g_aload_n hC dX4_addSignAt_37 rfl ?_
      refine g_getR hC fdX4_15 (by assumption) (by assumption) dX4_addSignAt_38 ?_
      refine g_iload_n hC dX4_addSignAt_41 rfl ?_
      refine g_dup2 hC dX4_addSignAt_42 rfl rfl ?_
      refine g_iald hC (by assumption) (by omega) (by omega) (by decide) dX4_addSignAt_43 ?_
      refine g_iconst hC dX4_addSignAt_44 ?_
      refine g_iadd hC dX4_addSignAt_45 ?_
      refine g_iast hC (by assumption) (by omega) (by omega) (by decide) dX4_addSignAt_46 ?_
      refine g_vret hC hI rfl dX4_addSignAt_47 (Nat.le_of_ble_eq_true rfl) (Nat.le_of_ble_eq_true rfl) ⟨rfl, rfl, rfl, ?_⟩
      first
        | (have e : (if 0 ≤ i then lnAdd xs i.toNat c else xs) = xs := by
             split
             · rw [lnAdd, if_neg (by omega)]
             · rfl
           rw [e]; exact ⟨hi9, hv9, fun b _ _ _ _ => rfl⟩)
        | (rw [if_pos (by omega)]
           refine LnV_add hO9 hi9 hv9 ⟨by omega, by omega⟩ q1 (by omega) ?_
           rw [show (i * 10 + mem a1 i.toNat).toNat = 10 * i.toNat + (sg xs i.toNat).length by omega]
           have x6 : a1 ≠ a2 := hO9.ne.2.2.2.2.2
           rw [gup_a _ _ _ _ x6, q2])
set_option maxHeartbeats 4000000 in
set_option maxRecDepth 100000 in
theorem kX4_shift (l : Launch) (D : va_G) (ac : Nat → ClassId) {sh : Nat → Nat × Nat} {rf : Nat → Nat → Option Nat} {mem : Nat → Nat → Int} (a a0 a1 a2 : Nat) (f t : Int) (hO : LnO sh rf a a0 a1 a2) (hi : LnI mem a a0 a1 a2) (hf : 0 ≤ f ∧ f ≤ 31 ∧ 0 ≤ t ∧ t ≤ 31) (hft : t + (mem a 3 - f) ≤ 30) : gMet l D ac mX4_shift 1 [.ref a, .int (iI f), .int (iI t)] 0 0 sh rf mem (pV sh rf (fun mem1 => mem1 = shf mem a0 a1 a2 f.toNat t.toNat (mem a 3 - f).toNat)) := by
  refine gMet.mk (by decide) (by intro v hv; simp at hv; (try rcases hv with rfl | rfl | rfl) <;> rfl) (Nat.le_of_ble_eq_true rfl) (fun X hC hI => ?_)
  show gG X sh rf mem 0 0 0 [some (.ref a), some (.int (iI f)), some (.int (iI t)), none] []
  have hO9 := hO
  obtain ⟨ho, hr0, hr1, hr2, hs0, hs1, hs2, hne⟩ := hO
  obtain ⟨hn1, hn2, hin, hil, hib⟩ := hi
  obtain ⟨n1, n2, n3, n4, n5, n6⟩ := hO9.ne
  have x5 := n5.symm
  have x6 := n6.symm
  refine g_aload_n hC dX4_shift_0 rfl ?_
  refine g_getI hC fdX4_22 (by assumption) dX4_shift_1 ?_
  refine g_iload_n hC dX4_shift_4 rfl ?_
  refine g_isub hC dX4_shift_5 ?_
  refine g_istore_n hC 3 rfl dX4_shift_6 (Nat.le_of_ble_eq_true rfl) ?_
  dsimp only [List.set]
  refine g_iload_n hC dX4_shift_7 rfl ?_
  refine g_if_le (tgt := 62) hC dX4_shift_8 (by decide) ⟨by omega, by omega⟩ (fun h8 => ?_) (fun h8 => ?_)
  · refine g_vret hC hI rfl dX4_shift_62 (Nat.le_of_ble_eq_true rfl) (Nat.le_of_ble_eq_true rfl) ⟨rfl, rfl, rfl, ?_⟩
    first
      | (rw [shf, show (mem a 3 - f).toNat = 0 by omega, gcp_0, gcp_0, gcp_0])
      | (rw [shf, show (f * 10).toNat = 10 * f.toNat by omega, show (t * 10).toNat = 10 * t.toNat by omega, show ((mem a 3 - f) * 10).toNat = 10 * (mem a 3 - f).toNat by omega])
  · refine g_aload_n hC dX4_shift_11 rfl ?_
    refine g_getR hC fdX4_9 (by assumption) (by assumption) dX4_shift_12 ?_
    refine g_iload_n hC dX4_shift_15 rfl ?_
    refine g_aload_n hC dX4_shift_16 rfl ?_
    refine g_getR hC fdX4_9 (by assumption) (by assumption) dX4_shift_17 ?_
    refine g_iload_n hC dX4_shift_20 rfl ?_
    refine g_iload_n hC dX4_shift_21 rfl ?_
    refine g_copy hC lkX4_48 ac_na ac_st ac_in (by assumption) (by assumption) (by decide) (by omega) (by omega) (by omega) (by omega) (by omega) (by decide) (by decide) (fun h => absurd h (by decide)) (by rw [hI.rm]; exact (Nat.le_of_ble_eq_true rfl)) (by rw [hI.rm]; exact (Nat.le_of_ble_eq_true rfl)) dX4_shift_22 ?_
    refine g_aload_n hC dX4_shift_25 rfl ?_
    refine g_getR hC fdX4_15 (by assumption) (by assumption) dX4_shift_26 ?_
    refine g_iload_n hC dX4_shift_29 rfl ?_
    refine g_aload_n hC dX4_shift_30 rfl ?_
    refine g_getR hC fdX4_15 (by assumption) (by assumption) dX4_shift_31 ?_
    refine g_iload_n hC dX4_shift_34 rfl ?_
    refine g_iload_n hC dX4_shift_35 rfl ?_
    refine g_copy hC lkX4_48 ac_na ac_st ac_in (by assumption) (by assumption) (by decide) (by omega) (by omega) (by omega) (by omega) (by omega) (by decide) (by decide) (fun h => absurd h (by decide)) (by rw [hI.rm]; exact (Nat.le_of_ble_eq_true rfl)) (by rw [hI.rm]; exact (Nat.le_of_ble_eq_true rfl)) dX4_shift_36 ?_
    refine g_aload_n hC dX4_shift_39 rfl ?_
    refine g_getR hC fdX4_18 (by assumption) (by assumption) dX4_shift_40 ?_
    refine g_iload_n hC dX4_shift_43 rfl ?_
    refine g_bipush hC dX4_shift_44 (by decide +kernel) ?_
    refine g_imul hC dX4_shift_46 ?_
    refine g_aload_n hC dX4_shift_47 rfl ?_
    refine g_getR hC fdX4_18 (by assumption) (by assumption) dX4_shift_48 ?_
    refine g_iload_n hC dX4_shift_51 rfl ?_
    refine g_bipush hC dX4_shift_52 (by decide +kernel) ?_
    refine g_imul hC dX4_shift_54 ?_
    refine g_iload_n hC dX4_shift_55 rfl ?_
    refine g_bipush hC dX4_shift_56 (by decide +kernel) ?_
    refine g_imul hC dX4_shift_58 ?_
    refine g_copy hC lkX4_48 ac_na ac_st ac_in (by assumption) (by assumption) (by decide) (by omega) (by omega) (by omega) (by omega) (by omega) (by decide) (by decide) (fun _ i hi => by simp only [gcp, x5, x6, false_and, if_false]; exact hib _) (by rw [hI.rm]; exact (Nat.le_of_ble_eq_true rfl)) (by rw [hI.rm]; exact (Nat.le_of_ble_eq_true rfl)) dX4_shift_59 ?_
    refine g_vret hC hI rfl dX4_shift_62 (Nat.le_of_ble_eq_true rfl) (Nat.le_of_ble_eq_true rfl) ⟨rfl, rfl, rfl, ?_⟩
    first
      | (rw [shf, show (mem a 3 - f).toNat = 0 by omega, gcp_0, gcp_0, gcp_0])
      | (rw [shf, show (f * 10).toNat = 10 * f.toNat by omega, show (t * 10).toNat = 10 * t.toNat by omega, show ((mem a 3 - f) * 10).toNat = 10 * (mem a 3 - f).toNat by omega])
