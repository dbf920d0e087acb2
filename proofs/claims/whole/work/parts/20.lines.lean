/-! Lines: an object with rows of numbers, lengths and signs -/
def LnO (sh : Nat → Nat × Nat) (rf : Nat → Nat → Option Nat) (a a0 a1 a2 : Nat) : Prop := sh a = (4, 0) ∧ rf a 0 = some a0 ∧ rf a 1 = some a1 ∧ rf a 2 = some a2 ∧ sh a0 = (12, 30) ∧ sh a1 = (12, 30) ∧ sh a2 = (11, 300) ∧ a0 ≠ a1
def LnI (mem : Nat → Nat → Int) (a a0 a1 a2 : Nat) : Prop := 0 ≤ mem a 3 ∧ mem a 3 ≤ 30 ∧ (∀ i, 0 ≤ mem a0 i ∧ mem a0 i ≤ 9999) ∧ (∀ i, 0 ≤ mem a1 i ∧ mem a1 i ≤ 10) ∧ (∀ i, -128 ≤ mem a2 i ∧ mem a2 i < 128)
abbrev Lns : Type := List (Int × List Int)
def nu (xs : Lns) (i : Nat) : Int := (xs.getD i (0, [])).1
def sg (xs : Lns) (i : Nat) : List Int := (xs.getD i (0, [])).2
/-- the lines that the rows hold -/
def LnV (mem : Nat → Nat → Int) (a a0 a1 a2 : Nat) (xs : Lns) : Prop := mem a 3 = xs.length ∧ ∀ i, i < xs.length → mem a0 i = nu xs i ∧ mem a1 i = ((sg xs i).length : Int) ∧ ∀ k, k < (sg xs i).length → mem a2 (10 * i + k) = (sg xs i).getD k 0
/-- the place of a number -/
def plc : Lns → Int → Nat
  | [], _ => 0
  | x :: t, n => if x.1 < n then plc t n + 1 else 0
theorem plc_le (n : Int) : ∀ xs : Lns, plc xs n ≤ xs.length
  | [] => Nat.le_refl _
  | x :: t => by
    have := plc_le n t
    simp only [plc, List.length_cons]
    split <;> omega
theorem plc_lt (n : Int) : ∀ (xs : Lns) (j : Nat), j < plc xs n → nu xs j < n
  | [], j, h => by simp [plc] at h
  | x :: t, 0, h => by
    simp only [plc] at h
    split at h
    · simpa [nu] using ‹_›
    · omega
  | x :: t, j + 1, h => by
    simp only [plc] at h
    split at h
    · have := plc_lt n t j (by omega)
      simpa [nu] using this
    · omega
theorem plc_ge (n : Int) : ∀ (xs : Lns), plc xs n < xs.length → n ≤ nu xs (plc xs n)
  | [], h => by simp at h
  | x :: t, h => by
    by_cases hx : x.1 < n
    · have e : plc (x :: t) n = plc t n + 1 := by simp [plc, hx]
      rw [e] at h ⊢
      have := plc_ge n t (by simpa using h)
      simpa [nu] using this
    · have e : plc (x :: t) n = 0 := by simp [plc, hx]
      rw [e]
      simp [nu]
      omega
theorem plc_eq {n : Int} {xs : Lns} {p : Nat} (h1 : p ≤ xs.length) (h2 : ∀ j, j < p → nu xs j < n) (h3 : p < xs.length → n ≤ nu xs p) : p = plc xs n := by
  rcases Nat.lt_trichotomy p (plc xs n) with h | h | h
  · have := plc_lt n xs p h
    have := h3 (Nat.lt_of_lt_of_le h (plc_le n xs))
    omega
  · exact h
  · have := h2 _ h
    have := plc_ge n xs (by omega)
    omega
set_option maxHeartbeats 4000000 in
set_option maxRecDepth 100000 in
theorem kX4_size (l : Launch) (D : va_G) (ac : Nat → ClassId) {sh : Nat → Nat × Nat} {rf : Nat → Nat → Option Nat} {mem : Nat → Nat → Int} (a a0 a1 a2 : Nat) (hO : LnO sh rf a a0 a1 a2) : gMet l D ac mX4_size 0 [.ref a] 0 0 sh rf mem (pP sh rf mem (fun r => r = mem a 3)) := by
  refine gMet.mk (by decide) (by intro v hv; simp at hv; (try rcases hv with rfl) <;> rfl) (Nat.le_of_ble_eq_true rfl) (fun X hC hI => ?_)
  show gG X sh rf mem 0 0 0 [some (.ref a)] []
  obtain ⟨ho, hr0, hr1, hr2, hs0, hs1, hs2, hne⟩ := hO
  refine g_aload_n hC dX4_size_0 rfl ?_
  refine g_getI hC fdX4_22 (by assumption) dX4_size_1 ?_
  refine g_iret hC hI rfl dX4_size_4 (Nat.le_of_ble_eq_true rfl) (Nat.le_of_ble_eq_true rfl) ⟨rfl, rfl, rfl, _, rfl, ?_⟩
  rfl
set_option maxHeartbeats 4000000 in
set_option maxRecDepth 100000 in
theorem kX4_clear (l : Launch) (D : va_G) (ac : Nat → ClassId) {sh : Nat → Nat × Nat} {rf : Nat → Nat → Option Nat} {mem : Nat → Nat → Int} (a a0 a1 a2 : Nat) (hO : LnO sh rf a a0 a1 a2) : gMet l D ac mX4_clear 0 [.ref a] 0 0 sh rf mem (pV sh rf (fun mem1 => mem1 = gup mem a 3 0)) := by
  refine gMet.mk (by decide) (by intro v hv; simp at hv; (try rcases hv with rfl) <;> rfl) (Nat.le_of_ble_eq_true rfl) (fun X hC hI => ?_)
  show gG X sh rf mem 0 0 0 [some (.ref a)] []
  obtain ⟨ho, hr0, hr1, hr2, hs0, hs1, hs2, hne⟩ := hO
  refine g_aload_n hC dX4_clear_0 rfl ?_
  refine g_iconst hC dX4_clear_1 ?_
  refine g_putI hC fdX4_22 (by assumption) rfl rfl dX4_clear_2 ?_
  refine g_vret hC hI rfl dX4_clear_5 (Nat.le_of_ble_eq_true rfl) (Nat.le_of_ble_eq_true rfl) ⟨rfl, rfl, rfl, ?_⟩
  rfl
set_option maxHeartbeats 4000000 in
set_option maxRecDepth 100000 in
theorem kX4_has (l : Launch) (D : va_G) (ac : Nat → ClassId) {sh : Nat → Nat × Nat} {rf : Nat → Nat → Option Nat} {mem : Nat → Nat → Int} (a a0 a1 a2 : Nat) (i : Int) (hO : LnO sh rf a a0 a1 a2) (hi : LnI mem a a0 a1 a2) (hp : inR i) : gMet l D ac mX4_has 0 [.ref a, .int (iI i)] 0 0 sh rf mem (pP sh rf mem (fun r => (r = 1 ∧ 0 ≤ i ∧ i < mem a 3) ∨ (r = 0 ∧ ¬ (0 ≤ i ∧ i < mem a 3)))) := by
  refine gMet.mk (by decide) (by intro v hv; simp at hv; (try rcases hv with rfl | rfl) <;> rfl) (Nat.le_of_ble_eq_true rfl) (fun X hC hI => ?_)
  show gG X sh rf mem 0 0 0 [some (.ref a), some (.int (iI i))] []
  obtain ⟨ho, hr0, hr1, hr2, hs0, hs1, hs2, hne⟩ := hO
  obtain ⟨hn1, hn2, hin, hil, hib⟩ := hi
  obtain ⟨hp1, hp2⟩ := hp
  refine g_iload_n hC dX4_has_0 rfl ?_
  refine g_if_lt (tgt := 16) hC dX4_has_1 (by decide) ⟨by omega, by omega⟩ (fun h1 => ?_) (fun h1 => ?_)
  · refine g_iconst hC dX4_has_16 ?_
    refine g_zret hC hI rfl (by decide +kernel) dX4_has_17 (Nat.le_of_ble_eq_true rfl) (Nat.le_of_ble_eq_true rfl) ⟨rfl, rfl, rfl, _, rfl, ?_⟩
    omega
  · refine g_iload_n hC dX4_has_4 rfl ?_
    refine g_aload_n hC dX4_has_5 rfl ?_
    refine g_getI hC fdX4_22 (by assumption) dX4_has_6 ?_
    refine g_icmp_ge (tgt := 16) hC dX4_has_9 (by decide) ⟨by omega, by omega⟩ ⟨by omega, by omega⟩ (fun h9 => ?_) (fun h9 => ?_)
    · refine g_iconst hC dX4_has_16 ?_
      refine g_zret hC hI rfl (by decide +kernel) dX4_has_17 (Nat.le_of_ble_eq_true rfl) (Nat.le_of_ble_eq_true rfl) ⟨rfl, rfl, rfl, _, rfl, ?_⟩
      omega
    · refine g_iconst hC dX4_has_12 ?_
      refine g_goto (tgt := 17) hC dX4_has_13 (by decide) ?_
      refine g_zret hC hI rfl (by decide +kernel) dX4_has_17 (Nat.le_of_ble_eq_true rfl) (Nat.le_of_ble_eq_true rfl) ⟨rfl, rfl, rfl, _, rfl, ?_⟩
      omega
theorem nu_out {xs : Lns} {i : Nat} (h : xs.length ≤ i) : nu xs i = 0 := by simp [nu, List.getD_eq_getElem?_getD, List.getElem?_eq_none h]
theorem sg_out {xs : Lns} {i : Nat} (h : xs.length ≤ i) : sg xs i = [] := by simp [sg, List.getD_eq_getElem?_getD, List.getElem?_eq_none h]
theorem LnO.ne {sh : Nat → Nat × Nat} {rf : Nat → Nat → Option Nat} {a a0 a1 a2 : Nat} (h : LnO sh rf a a0 a1 a2) : a ≠ a0 ∧ a ≠ a1 ∧ a ≠ a2 ∧ a0 ≠ a1 ∧ a0 ≠ a2 ∧ a1 ≠ a2 := by
  obtain ⟨ho, hr0, hr1, hr2, hs0, hs1, hs2, hne⟩ := h
  refine ⟨?_, ?_, ?_, hne, ?_, ?_⟩ <;> rintro rfl <;> simp_all
set_option maxHeartbeats 4000000 in
set_option maxRecDepth 100000 in
theorem kX4_numberAt (l : Launch) (D : va_G) (ac : Nat → ClassId) {sh : Nat → Nat × Nat} {rf : Nat → Nat → Option Nat} {mem : Nat → Nat → Int} (a a0 a1 a2 : Nat) (xs : Lns) (i : Int) (hO : LnO sh rf a a0 a1 a2) (hi : LnI mem a a0 a1 a2) (hv : LnV mem a a0 a1 a2 xs) (hp : inR i) : gMet l D ac mX4_numberAt 1 [.ref a, .int (iI i)] 0 0 sh rf mem (pP sh rf mem (fun r => (0 ≤ i ∧ r = nu xs i.toNat) ∨ (i < 0 ∧ r = 0))) := by
  refine gMet.mk (by decide) (by intro v hv; simp at hv; (try rcases hv with rfl | rfl) <;> rfl) (Nat.le_of_ble_eq_true rfl) (fun X hC hI => ?_)
  show gG X sh rf mem 0 0 0 [some (.ref a), some (.int (iI i))] []
  have hO9 := hO
  have hi9 := hi
  have hp9 := hp
  obtain ⟨ho, hr0, hr1, hr2, hs0, hs1, hs2, hne⟩ := hO
  obtain ⟨hn1, hn2, hin, hil, hib⟩ := hi
  obtain ⟨hp1, hp2⟩ := hp
  obtain ⟨hv1, hv2⟩ := hv
  refine g_aload_n hC dX4_numberAt_0 rfl ?_
  refine g_iload_n hC dX4_numberAt_1 rfl ?_
  refine g_VP hC (kX4_has (gl X) (gD X) (gac X) a a0 a1 a2 i hO9 hi9 hp9) cvX4_has lkX4_26 (by assumption) rfl rfl (Nat.le_of_ble_eq_true rfl) (hI.fit (Nat.le_of_ble_eq_true rfl) (Nat.le_of_ble_eq_true rfl) (Nat.le_of_ble_eq_true rfl)) dX4_numberAt_2 (fun x2 hx2 => ?_)
  refine g_if_eq (tgt := 17) hC dX4_numberAt_5 (by decide) ⟨by omega, by omega⟩ (fun h5 => ?_) (fun h5 => ?_)
  · refine g_iconst hC dX4_numberAt_17 ?_
    refine g_iret hC hI rfl dX4_numberAt_18 (Nat.le_of_ble_eq_true rfl) (Nat.le_of_ble_eq_true rfl) ⟨rfl, rfl, rfl, _, rfl, ?_⟩
    by_cases q : i < 0
    · omega
    · by_cases q2 : i < xs.length
      · have := (hv2 i.toNat (by omega)).1
        omega
      · have := nu_out (xs := xs) (i := i.toNat) (by omega)
        omega
  · refine g_aload_n hC dX4_numberAt_8 rfl ?_
    refine g_getR hC fdX4_9 (by assumption) (by assumption) dX4_numberAt_9 ?_
    refine g_iload_n hC dX4_numberAt_12 rfl ?_
    refine g_iald hC (by assumption) (by omega) (by omega) (by decide) dX4_numberAt_13 ?_
    refine g_goto (tgt := 18) hC dX4_numberAt_14 (by decide) ?_
    refine g_iret hC hI rfl dX4_numberAt_18 (Nat.le_of_ble_eq_true rfl) (Nat.le_of_ble_eq_true rfl) ⟨rfl, rfl, rfl, _, rfl, ?_⟩
    by_cases q : i < 0
    · omega
    · by_cases q2 : i < xs.length
      · have := (hv2 i.toNat (by omega)).1
        omega
      · have := nu_out (xs := xs) (i := i.toNat) (by omega)
        omega
set_option maxHeartbeats 4000000 in
set_option maxRecDepth 100000 in
theorem kX4_lengthAt (l : Launch) (D : va_G) (ac : Nat → ClassId) {sh : Nat → Nat × Nat} {rf : Nat → Nat → Option Nat} {mem : Nat → Nat → Int} (a a0 a1 a2 : Nat) (xs : Lns) (i : Int) (hO : LnO sh rf a a0 a1 a2) (hi : LnI mem a a0 a1 a2) (hv : LnV mem a a0 a1 a2 xs) (hp : inR i) : gMet l D ac mX4_lengthAt 1 [.ref a, .int (iI i)] 0 0 sh rf mem (pP sh rf mem (fun r => (0 ≤ i ∧ r = ((sg xs i.toNat).length : Int)) ∨ (i < 0 ∧ r = 0))) := by
  refine gMet.mk (by decide) (by intro v hv; simp at hv; (try rcases hv with rfl | rfl) <;> rfl) (Nat.le_of_ble_eq_true rfl) (fun X hC hI => ?_)
  show gG X sh rf mem 0 0 0 [some (.ref a), some (.int (iI i))] []
  have hO9 := hO
  have hi9 := hi
  have hp9 := hp
  obtain ⟨ho, hr0, hr1, hr2, hs0, hs1, hs2, hne⟩ := hO
  obtain ⟨hn1, hn2, hin, hil, hib⟩ := hi
  obtain ⟨hp1, hp2⟩ := hp
  obtain ⟨hv1, hv2⟩ := hv
  refine g_aload_n hC dX4_lengthAt_0 rfl ?_
  refine g_iload_n hC dX4_lengthAt_1 rfl ?_
  refine g_VP hC (kX4_has (gl X) (gD X) (gac X) a a0 a1 a2 i hO9 hi9 hp9) cvX4_has lkX4_26 (by assumption) rfl rfl (Nat.le_of_ble_eq_true rfl) (hI.fit (Nat.le_of_ble_eq_true rfl) (Nat.le_of_ble_eq_true rfl) (Nat.le_of_ble_eq_true rfl)) dX4_lengthAt_2 (fun x2 hx2 => ?_)
  refine g_if_eq (tgt := 17) hC dX4_lengthAt_5 (by decide) ⟨by omega, by omega⟩ (fun h5 => ?_) (fun h5 => ?_)
  · refine g_iconst hC dX4_lengthAt_17 ?_
    refine g_iret hC hI rfl dX4_lengthAt_18 (Nat.le_of_ble_eq_true rfl) (Nat.le_of_ble_eq_true rfl) ⟨rfl, rfl, rfl, _, rfl, ?_⟩
    by_cases q : i < 0
    · omega
    · by_cases q2 : i < xs.length
      · have := (hv2 i.toNat (by omega)).2.1
        omega
      · have := sg_out (xs := xs) (i := i.toNat) (by omega)
        first | (exfalso; omega) | (left; exact ⟨by omega, by rw [this]; rfl⟩)
  · refine g_aload_n hC dX4_lengthAt_8 rfl ?_
    refine g_getR hC fdX4_15 (by assumption) (by assumption) dX4_lengthAt_9 ?_
    refine g_iload_n hC dX4_lengthAt_12 rfl ?_
    refine g_iald hC (by assumption) (by omega) (by omega) (by decide) dX4_lengthAt_13 ?_
    refine g_goto (tgt := 18) hC dX4_lengthAt_14 (by decide) ?_
    refine g_iret hC hI rfl dX4_lengthAt_18 (Nat.le_of_ble_eq_true rfl) (Nat.le_of_ble_eq_true rfl) ⟨rfl, rfl, rfl, _, rfl, ?_⟩
    by_cases q : i < 0
    · omega
    · by_cases q2 : i < xs.length
      · have := (hv2 i.toNat (by omega)).2.1
        omega
      · have := sg_out (xs := xs) (i := i.toNat) (by omega)
        first | (exfalso; omega) | (left; exact ⟨by omega, by rw [this]; rfl⟩)
set_option maxHeartbeats 4000000 in
set_option maxRecDepth 100000 in
theorem kX4_placeFor (l : Launch) (D : va_G) (ac : Nat → ClassId) {sh : Nat → Nat × Nat} {rf : Nat → Nat → Option Nat} {mem : Nat → Nat → Int} (a a0 a1 a2 : Nat) (xs : Lns) (n : Int) (hO : LnO sh rf a a0 a1 a2) (hi : LnI mem a a0 a1 a2) (hv : LnV mem a a0 a1 a2 xs) (hp : inR n) : gMet l D ac mX4_placeFor 0 [.ref a, .int (iI n)] 0 0 sh rf mem (pP sh rf mem (fun r => r = plc xs n)) := by
  refine gMet.mk (by decide) (by intro v hv; simp at hv; (try rcases hv with rfl | rfl) <;> rfl) (Nat.le_of_ble_eq_true rfl) (fun X hC hI => ?_)
  show gG X sh rf mem 0 0 0 [some (.ref a), some (.int (iI n)), none] []
  obtain ⟨ho, hr0, hr1, hr2, hs0, hs1, hs2, hne⟩ := hO
  obtain ⟨hn1, hn2, hin, hil, hib⟩ := hi
  obtain ⟨hp1, hp2⟩ := hp
  obtain ⟨hv1, hv2⟩ := hv
  have J2 : ∀ (k i : Nat), i ≤ xs.length → xs.length < i + k → (∀ j, j < i → nu xs j < n) → gG X sh rf mem 0 0 2 [some (.ref a), some (.int (iI n)), some (.int (iI i))] [] := by
    intro k
    induction k with
    | zero => intro i h1 h2; omega
    | succ k ih =>
      intro i h1 h2 h3
      refine g_iload_n hC dX4_placeFor_2 rfl ?_
      refine g_aload_n hC dX4_placeFor_3 rfl ?_
      refine g_getI hC fdX4_22 (by assumption) dX4_placeFor_4 ?_
      refine g_icmp_ge (tgt := 26) hC dX4_placeFor_7 (by decide) ⟨by omega, by omega⟩ ⟨by omega, by omega⟩ (fun h7 => ?_) (fun h7 => ?_)
      · refine g_iload_n hC dX4_placeFor_26 rfl ?_
        refine g_iret hC hI rfl dX4_placeFor_27 (Nat.le_of_ble_eq_true rfl) (Nat.le_of_ble_eq_true rfl) ⟨rfl, rfl, rfl, _, rfl, ?_⟩
        have := plc_eq (n := n) (xs := xs) (p := i) h1 h3 (fun h => by omega)
        omega
      · refine g_aload_n hC dX4_placeFor_10 rfl ?_
        refine g_getR hC fdX4_9 (by assumption) (by assumption) dX4_placeFor_11 ?_
        refine g_iload_n hC dX4_placeFor_14 rfl ?_
        refine g_iald hC (by assumption) (by omega) (by omega) (by decide) dX4_placeFor_15 ?_
        rw [Int.toNat_natCast]
        have q1 := hin i
        have q2 := (hv2 i (by omega)).1
        refine g_iload_n hC dX4_placeFor_16 rfl ?_
        refine g_icmp_ge (tgt := 26) hC dX4_placeFor_17 (by decide) ⟨by omega, by omega⟩ ⟨by omega, by omega⟩ (fun h17 => ?_) (fun h17 => ?_)
        · refine g_iload_n hC dX4_placeFor_26 rfl ?_
          refine g_iret hC hI rfl dX4_placeFor_27 (Nat.le_of_ble_eq_true rfl) (Nat.le_of_ble_eq_true rfl) ⟨rfl, rfl, rfl, _, rfl, ?_⟩
          have := plc_eq (n := n) (xs := xs) (p := i) h1 h3 (fun h => by omega)
          omega
        · refine g_iinc hC dX4_placeFor_20 rfl ?_
          dsimp only [List.set]
          refine g_goto (tgt := 2) hC dX4_placeFor_23 (by decide) ?_
          first | exact J2 (xs.length + 1) 0 (Nat.zero_le _) (by omega) (fun j hj => absurd hj (Nat.not_lt_zero j)) | exact ih (i + 1) (by omega) (by omega) (fun j hj => by rcases Nat.lt_succ_iff_lt_or_eq.mp hj with q | rfl; exact h3 j q; omega)
  refine g_iconst hC dX4_placeFor_0 ?_
  refine g_istore_n hC 2 rfl dX4_placeFor_1 (Nat.le_of_ble_eq_true rfl) ?_
  dsimp only [List.set]
  first | exact J2 (xs.length + 1) 0 (Nat.zero_le _) (by omega) (fun j hj => absurd hj (Nat.not_lt_zero j)) | exact ih (i + 1) (by omega) (by omega) (fun j hj => by rcases Nat.lt_succ_iff_lt_or_eq.mp hj with q | rfl; exact h3 j q; omega)
