/-! Libraries: members by library and name -/
abbrev MemT : Type := Int × Int × Lns
def memAt (ss : List (Option MemT)) (n : Int) : Option MemT := if 1 ≤ n then ss.getD (n - 1).toNat none else none
def hnIs (ss : List (Option MemT)) (i : Nat) (l n : Int) : Prop := ∃ x, ss.getD i none = some x ∧ x.1 = l ∧ x.2.1 = n
/-- the number of the member of a name in a library, 0 without -/
def memS : List (Option MemT) → Int → Int → Nat
  | [], _, _ => 0
  | o :: t, l, n => if (o.map (fun x => (x.1, x.2.1))) = some (l, n) then 1 else if memS t l n = 0 then 0 else memS t l n + 1
theorem hnIs_0 {o : Option MemT} {t : List (Option MemT)} {l n : Int} : hnIs (o :: t) 0 l n ↔ o.map (fun x => (x.1, x.2.1)) = some (l, n) := by
  unfold hnIs
  cases o with
  | none => simp
  | some x => simp
theorem hnIs_s {o : Option MemT} {t : List (Option MemT)} {l n : Int} {i : Nat} : hnIs (o :: t) (i + 1) l n ↔ hnIs t i l n := by
  unfold hnIs
  simp
theorem memS_zero {l n : Int} : ∀ {ss : List (Option MemT)}, (∀ i, i < ss.length → ¬ hnIs ss i l n) → memS ss l n = 0
  | [], _ => rfl
  | o :: t, h => by
    have h0 : ¬ o.map (fun x => (x.1, x.2.1)) = some (l, n) := fun q => h 0 (by simp) (hnIs_0.mpr q)
    have ht : memS t l n = 0 := memS_zero (fun i hi q => h (i + 1) (by simpa using hi) (hnIs_s.mpr q))
    rw [memS, if_neg h0, if_pos ht]
theorem memS_pos {l n : Int} : ∀ {ss : List (Option MemT)} {k : Nat}, hnIs ss k l n → (∀ i, i < k → ¬ hnIs ss i l n) → memS ss l n = k + 1
  | [], k, h, _ => by
    obtain ⟨x, hx, -⟩ := h
    simp at hx
  | o :: t, 0, h, _ => by rw [memS, if_pos (hnIs_0.mp h)]
  | o :: t, k + 1, h, hm => by
    have h0 : ¬ o.map (fun x => (x.1, x.2.1)) = some (l, n) := fun q => hm 0 (by omega) (hnIs_0.mpr q)
    have ht : memS t l n = k + 1 := memS_pos (hnIs_s.mp h) (fun i hi q => hm (i + 1) (by omega) (hnIs_s.mpr q))
    rw [memS, if_neg h0, if_neg (by omega), ht]
theorem memS_le (l n : Int) : ∀ (ss : List (Option MemT)), memS ss l n ≤ ss.length
  | [] => Nat.le_refl _
  | o :: t => by
    have := memS_le l n t
    simp only [memS, List.length_cons]
    split
    · omega
    · split <;> omega
theorem memS_is {l n : Int} : ∀ {ss : List (Option MemT)}, memS ss l n ≠ 0 → hnIs ss (memS ss l n - 1) l n
  | [], h => absurd rfl h
  | o :: t, h => by
    by_cases h0 : o.map (fun x => (x.1, x.2.1)) = some (l, n)
    · rw [memS, if_pos h0]
      exact hnIs_0.mpr h0
    · rw [memS, if_neg h0] at h ⊢
      by_cases h1 : memS t l n = 0
      · rw [if_pos h1] at h
        exact absurd rfl h
      · rw [if_neg h1]
        have h2 := memS_is h1
        have e : memS t l n + 1 - 1 = (memS t l n - 1) + 1 := by omega
        rw [e]
        exact hnIs_s.mpr h2
theorem memAt_some {ss : List (Option MemT)} {n : Int} {x : MemT} (h : memAt ss n = some x) : 1 ≤ n ∧ n ≤ ss.length ∧ ss.getD (n - 1).toNat none = some x := by
  unfold memAt at h
  split at h
  · refine ⟨by omega, ?_, h⟩
    apply Classical.byContradiction
    intro q
    rw [List.getD_eq_getElem?_getD, List.getElem?_eq_none (by omega)] at h
    simp at h
  · simp at h
theorem memAt_num {ss : List (Option MemT)} {l n : Int} (h : memS ss l n ≠ 0) : ∃ x, memAt ss (memS ss l n) = some x ∧ x.1 = l ∧ x.2.1 = n := by
  obtain ⟨x, h1, h2⟩ := memS_is h
  refine ⟨x, ?_, h2⟩
  rw [memAt, if_pos (by omega), show ((memS ss l n : Int) - 1).toNat = memS ss l n - 1 by omega]
  exact h1
theorem memAt_0 {ss : List (Option MemT)} {n : Int} (h : n < 1) : memAt ss n = none := by rw [memAt, if_neg (by omega)]
def LbO (sh : Nat → Nat × Nat) (rf : Nat → Nat → Option Nat) (a a0 a1 a2 : Nat) : Prop := sh a = (3, 0) ∧ rf a 0 = some a0 ∧ rf a 1 = some a1 ∧ rf a 2 = some a2 ∧ sh a0 = (13, 6) ∧ sh a1 = (15, 80) ∧ sh a2 = (12, 600)
def pl (l n : Int) : Nat := ((l - 1) * 100 + n).toNat
/-- what the heap has of the libraries and their members -/
def LbV (sh : Nat → Nat × Nat) (rf : Nat → Nat → Option Nat) (mem : Nat → Nat → Int) (a a0 a1 a2 : Nat) (la l0 l1 l2 : Nat → Nat) (rp : List Int) (ms : List (Option MemT)) : Prop :=
  mem a 3 = rp.length ∧ rp.length ≤ 6 ∧ mem a 4 = ms.length ∧ ms.length ≤ 80 ∧
  (∀ i, i < rp.length → mem a0 i = rp.getD i 0 ∧ (rp.getD i 0 = 0 ∨ rp.getD i 0 = 1)) ∧
  (∀ i, i < ms.length → (ms.getD i none = none → rf a1 i = none) ∧ ∀ x, ms.getD i none = some x → rf a1 i = some (la i) ∧ LnO sh rf (la i) (l0 i) (l1 i) (l2 i) ∧ LnI mem (la i) (l0 i) (l1 i) (l2 i) ∧ LnV mem (la i) (l0 i) (l1 i) (l2 i) x.2.2 ∧ 1 ≤ x.1 ∧ x.1 ≤ rp.length ∧ 0 ≤ x.2.1 ∧ x.2.1 < 100) ∧
  (∀ i j, i < ms.length → j < ms.length → i ≠ j → ms.getD i none ≠ none → ms.getD j none ≠ none → LnD (la i) (l0 i) (l1 i) (l2 i) (la j) (l0 j) (l1 j) (l2 j)) ∧
  (∀ l n, 1 ≤ l → l ≤ 6 → 0 ≤ n → n < 100 → mem a2 (pl l n) = memS ms l n) ∧
  (∀ i j l n, hnIs ms i l n → hnIs ms j l n → i = j)
theorem LbO.ne {sh : Nat → Nat × Nat} {rf : Nat → Nat → Option Nat} {a a0 a1 a2 : Nat} (h : LbO sh rf a a0 a1 a2) : a ≠ a0 ∧ a ≠ a1 ∧ a ≠ a2 ∧ a0 ≠ a1 ∧ a0 ≠ a2 ∧ a1 ≠ a2 := by
  obtain ⟨ho, -, -, -, hs0, hs1, hs2⟩ := h
  refine ⟨?_, ?_, ?_, ?_, ?_, ?_⟩ <;> rintro rfl <;> simp_all
theorem getD_ltM {ss : List (Option MemT)} {i : Nat} (h : ss.getD i none ≠ none) : i < ss.length := by
  apply Classical.byContradiction
  intro q
  apply h
  rw [List.getD_eq_getElem?_getD, List.getElem?_eq_none (by omega)]
  rfl
theorem getD_appM {ss : List (Option MemT)} {v : Option MemT} {i : Nat} : (ss ++ [v]).getD i none = if i = ss.length then v else ss.getD i none := by
  rw [List.getD_eq_getElem?_getD, List.getD_eq_getElem?_getD]
  by_cases h : i < ss.length
  · rw [List.getElem?_append_left h, if_neg (by omega)]
  · rw [List.getElem?_append_right (by omega)]
    by_cases h2 : i = ss.length
    · subst h2
      simp
    · rw [if_neg h2, List.getElem?_eq_none (by simp; omega), List.getElem?_eq_none (by omega)]
theorem getD_setM {ss : List (Option MemT)} {v : Option MemT} {k i : Nat} (h : k < ss.length) : (ss.set k v).getD i none = if i = k then v else ss.getD i none := by
  rw [List.getD_eq_getElem?_getD, List.getD_eq_getElem?_getD, List.getElem?_set]
  by_cases hi : k = i
  · subst hi
    simp [h]
  · rw [if_neg hi, if_neg (fun q => hi q.symm)]
/-- a member of a name stands in a library that is there, under a name -/
theorem memS_in {sh : Nat → Nat × Nat} {rf : Nat → Nat → Option Nat} {mem : Nat → Nat → Int} {a a0 a1 a2 : Nat} {la l0 l1 l2 : Nat → Nat} {rp : List Int} {ms : List (Option MemT)} (h : LbV sh rf mem a a0 a1 a2 la l0 l1 l2 rp ms) {l n : Int} (hz : memS ms l n ≠ 0) : 1 ≤ l ∧ l ≤ rp.length ∧ 0 ≤ n ∧ n < 100 := by
  obtain ⟨x, h1, h2, h3⟩ := memS_is hz
  have hx := ((h.2.2.2.2.2.1 _ (getD_ltM (by rw [h1]; simp))).2 x h1).2.2.2.2
  rw [h2, h3] at hx
  exact hx
theorem memS_out {sh : Nat → Nat × Nat} {rf : Nat → Nat → Option Nat} {mem : Nat → Nat → Int} {a a0 a1 a2 : Nat} {la l0 l1 l2 : Nat → Nat} {rp : List Int} {ms : List (Option MemT)} (h : LbV sh rf mem a a0 a1 a2 la l0 l1 l2 rp ms) {l n : Int} (hz : ¬ (1 ≤ l ∧ l ≤ rp.length ∧ 0 ≤ n ∧ n < 100)) : memS ms l n = 0 := by
  apply Classical.byContradiction
  intro z
  exact hz (memS_in h z)
theorem LbV.at {sh : Nat → Nat × Nat} {rf : Nat → Nat → Option Nat} {mem : Nat → Nat → Int} {a a0 a1 a2 : Nat} {la l0 l1 l2 : Nat → Nat} {rp : List Int} {ms : List (Option MemT)} (h : LbV sh rf mem a a0 a1 a2 la l0 l1 l2 rp ms) {n : Int} {x : MemT} (hx : memAt ms n = some x) : LnO sh rf (la (n - 1).toNat) (l0 (n - 1).toNat) (l1 (n - 1).toNat) (l2 (n - 1).toNat) ∧ LnI mem (la (n - 1).toNat) (l0 (n - 1).toNat) (l1 (n - 1).toNat) (l2 (n - 1).toNat) ∧ LnV mem (la (n - 1).toNat) (l0 (n - 1).toNat) (l1 (n - 1).toNat) (l2 (n - 1).toNat) x.2.2 := by
  obtain ⟨h1, h2, h3⟩ := memAt_some hx
  have q := ((h.2.2.2.2.2.1 (n - 1).toNat (by omega)).2 x h3).2
  exact ⟨q.1, q.2.1, q.2.2.1⟩
set_option maxHeartbeats 4000000 in
set_option maxRecDepth 100000 in
theorem kX3_librariesMade (lc : Launch) (D : va_G) (ac : Nat → ClassId) {sh : Nat → Nat × Nat} {rf : Nat → Nat → Option Nat} {mem : Nat → Nat → Int} (a a0 a1 a2 : Nat) (la l0 l1 l2 : Nat → Nat) (rp : List Int) (ms : List (Option MemT)) (hO : LbO sh rf a a0 a1 a2) (hv : LbV sh rf mem a a0 a1 a2 la l0 l1 l2 rp ms) : gMet lc D ac mX3_librariesMade 0 [.ref a] 0 0 sh rf mem (pP sh rf mem (fun r => r = rp.length)) := by
  refine gMet.mk (by decide) (by intro v hv; simp at hv; (try rcases hv with rfl) <;> rfl) (Nat.le_of_ble_eq_true rfl) (fun X hC hI => ?_)
  show gG X sh rf mem 0 0 0 [some (.ref a)] []
  have hO9 := hO
  have hv9 := hv
  obtain ⟨n1, n2, n3, n4, n5, n6⟩ := hO.ne
  obtain ⟨ho, hr0, hr1, hr2, hs0, hs1, hs2⟩ := hO
  obtain ⟨v1, v2, v3, v4, v5, v6, v7, v8, v9⟩ := hv
  refine g_aload_n hC dX3_librariesMade_0 rfl ?_
  refine g_getI hC fdX3_25 (by assumption) dX3_librariesMade_1 ?_
  refine g_iret hC hI rfl dX3_librariesMade_4 (Nat.le_of_ble_eq_true rfl) (Nat.le_of_ble_eq_true rfl) ⟨rfl, rfl, rfl, _, rfl, ?_⟩
  omega
set_option maxHeartbeats 4000000 in
set_option maxRecDepth 100000 in
theorem kX3_membersMade (lc : Launch) (D : va_G) (ac : Nat → ClassId) {sh : Nat → Nat × Nat} {rf : Nat → Nat → Option Nat} {mem : Nat → Nat → Int} (a a0 a1 a2 : Nat) (la l0 l1 l2 : Nat → Nat) (rp : List Int) (ms : List (Option MemT)) (hO : LbO sh rf a a0 a1 a2) (hv : LbV sh rf mem a a0 a1 a2 la l0 l1 l2 rp ms) : gMet lc D ac mX3_membersMade 0 [.ref a] 0 0 sh rf mem (pP sh rf mem (fun r => r = ms.length)) := by
  refine gMet.mk (by decide) (by intro v hv; simp at hv; (try rcases hv with rfl) <;> rfl) (Nat.le_of_ble_eq_true rfl) (fun X hC hI => ?_)
  show gG X sh rf mem 0 0 0 [some (.ref a)] []
  have hO9 := hO
  have hv9 := hv
  obtain ⟨n1, n2, n3, n4, n5, n6⟩ := hO.ne
  obtain ⟨ho, hr0, hr1, hr2, hs0, hs1, hs2⟩ := hO
  obtain ⟨v1, v2, v3, v4, v5, v6, v7, v8, v9⟩ := hv
  refine g_aload_n hC dX3_membersMade_0 rfl ?_
  refine g_getI hC fdX3_29 (by assumption) dX3_membersMade_1 ?_
  refine g_iret hC hI rfl dX3_membersMade_4 (Nat.le_of_ble_eq_true rfl) (Nat.le_of_ble_eq_true rfl) ⟨rfl, rfl, rfl, _, rfl, ?_⟩
  omega
set_option maxHeartbeats 4000000 in
set_option maxRecDepth 100000 in
theorem kX3_addLibrary (lc : Launch) (D : va_G) (ac : Nat → ClassId) {sh : Nat → Nat × Nat} {rf : Nat → Nat → Option Nat} {mem : Nat → Nat → Int} (a a0 a1 a2 : Nat) (la l0 l1 l2 : Nat → Nat) (rp : List Int) (ms : List (Option MemT)) (v : Int) (hO : LbO sh rf a a0 a1 a2) (hv : LbV sh rf mem a a0 a1 a2 la l0 l1 l2 rp ms) (hp : v = 0 ∨ v = 1) : gMet lc D ac mX3_addLibrary 0 [.ref a, .int (iI v)] 0 0 sh rf mem (pM sh rf (fun r mem1 => (6 ≤ rp.length ∧ r = -1 ∧ mem1 = mem) ∨ (rp.length < 6 ∧ r = rp.length + 1 ∧ mem1 = gup (gup mem a0 rp.length v) a 3 (rp.length + 1)))) := by
  refine gMet.mk (by decide) (by intro v hv; simp at hv; (try rcases hv with rfl | rfl) <;> rfl) (Nat.le_of_ble_eq_true rfl) (fun X hC hI => ?_)
  show gG X sh rf mem 0 0 0 [some (.ref a), some (.int (iI v))] []
  have hO9 := hO
  have hv9 := hv
  obtain ⟨n1, n2, n3, n4, n5, n6⟩ := hO.ne
  obtain ⟨ho, hr0, hr1, hr2, hs0, hs1, hs2⟩ := hO
  obtain ⟨v1, v2, v3, v4, v5, v6, v7, v8, v9⟩ := hv
  refine g_aload_n hC dX3_addLibrary_0 rfl ?_
  refine g_getI hC fdX3_25 (by assumption) dX3_addLibrary_1 ?_
  refine g_bipush hC dX3_addLibrary_4 (by decide +kernel) ?_
  refine g_icmp_lt (tgt := 11) hC dX3_addLibrary_6 (by decide) ⟨by omega, by omega⟩ ⟨by omega, by omega⟩ (fun h6 => ?_) (fun h6 => ?_)
  · refine g_aload_n hC dX3_addLibrary_11 rfl ?_
    refine g_getR hC fdX3_9 (by assumption) (by assumption) dX3_addLibrary_12 ?_
    refine g_aload_n hC dX3_addLibrary_15 rfl ?_
    refine g_getI hC fdX3_25 (by assumption) dX3_addLibrary_16 ?_
    refine g_iload_n hC dX3_addLibrary_19 rfl ?_
    refine g_zast hC (by assumption) (by omega) (by omega) (by decide) (by omega) dX3_addLibrary_20 ?_
    refine g_aload_n hC dX3_addLibrary_21 rfl ?_
    refine g_dup hC dX3_addLibrary_22 rfl ?_
    refine g_getI hC fdX3_25 (by assumption) dX3_addLibrary_23 ?_
    refine g_iconst hC dX3_addLibrary_26 ?_
    refine g_iadd hC dX3_addLibrary_27 ?_
    refine g_putI hC fdX3_25 (by assumption) rfl rfl dX3_addLibrary_28 ?_
    refine g_aload_n hC dX3_addLibrary_31 rfl ?_
    refine g_getI hC fdX3_25 (by assumption) dX3_addLibrary_32 ?_
    refine g_iret hC hI rfl dX3_addLibrary_35 (Nat.le_of_ble_eq_true rfl) (Nat.le_of_ble_eq_true rfl) ⟨rfl, rfl, _, rfl, ?_⟩
    right
    have e : gup mem a0 (mem a 3).toNat v a 3 = mem a 3 := gup_a _ _ _ _ n1
    refine ⟨by omega, ?_, ?_⟩
    · rw [gup_s, e]; omega
    · rw [e, v1, Int.toNat_natCast]
  · refine g_iconst hC dX3_addLibrary_9 ?_
    refine g_iret hC hI rfl dX3_addLibrary_10 (Nat.le_of_ble_eq_true rfl) (Nat.le_of_ble_eq_true rfl) ⟨rfl, rfl, _, rfl, ?_⟩
    exact Or.inl ⟨by omega, rfl, rfl⟩
set_option maxHeartbeats 4000000 in
set_option maxRecDepth 100000 in
theorem kX3_hasLibrary (lc : Launch) (D : va_G) (ac : Nat → ClassId) {sh : Nat → Nat × Nat} {rf : Nat → Nat → Option Nat} {mem : Nat → Nat → Int} (a a0 a1 a2 : Nat) (la l0 l1 l2 : Nat → Nat) (rp : List Int) (ms : List (Option MemT)) (l : Int) (hO : LbO sh rf a a0 a1 a2) (hv : LbV sh rf mem a a0 a1 a2 la l0 l1 l2 rp ms) (h_p : inR l) : gMet lc D ac mX3_hasLibrary 0 [.ref a, .int (iI l)] 0 0 sh rf mem (pP sh rf mem (fun r => (r = 1 ∧ 1 ≤ l ∧ l ≤ rp.length) ∨ (r = 0 ∧ ¬ (1 ≤ l ∧ l ≤ rp.length)))) := by
  refine gMet.mk (by decide) (by intro v hv; simp at hv; (try rcases hv with rfl | rfl) <;> rfl) (Nat.le_of_ble_eq_true rfl) (fun X hC hI => ?_)
  show gG X sh rf mem 0 0 0 [some (.ref a), some (.int (iI l))] []
  have hO9 := hO
  have hv9 := hv
  obtain ⟨n1, n2, n3, n4, n5, n6⟩ := hO.ne
  obtain ⟨ho, hr0, hr1, hr2, hs0, hs1, hs2⟩ := hO
  obtain ⟨v1, v2, v3, v4, v5, v6, v7, v8, v9⟩ := hv
  have i_p := h_p
  obtain ⟨p1, p2⟩ := h_p
  refine g_iload_n hC dX3_hasLibrary_0 rfl ?_
  refine g_iconst hC dX3_hasLibrary_1 ?_
  refine g_icmp_lt (tgt := 17) hC dX3_hasLibrary_2 (by decide) ⟨by omega, by omega⟩ ⟨by omega, by omega⟩ (fun h2 => ?_) (fun h2 => ?_)
  · refine g_iconst hC dX3_hasLibrary_17 ?_
    refine g_zret hC hI rfl (by decide +kernel) dX3_hasLibrary_18 (Nat.le_of_ble_eq_true rfl) (Nat.le_of_ble_eq_true rfl) ⟨rfl, rfl, rfl, _, rfl, ?_⟩
    omega
  · refine g_iload_n hC dX3_hasLibrary_5 rfl ?_
    refine g_aload_n hC dX3_hasLibrary_6 rfl ?_
    refine g_getI hC fdX3_25 (by assumption) dX3_hasLibrary_7 ?_
    refine g_icmp_gt (tgt := 17) hC dX3_hasLibrary_10 (by decide) ⟨by omega, by omega⟩ ⟨by omega, by omega⟩ (fun h10 => ?_) (fun h10 => ?_)
    · refine g_iconst hC dX3_hasLibrary_17 ?_
      refine g_zret hC hI rfl (by decide +kernel) dX3_hasLibrary_18 (Nat.le_of_ble_eq_true rfl) (Nat.le_of_ble_eq_true rfl) ⟨rfl, rfl, rfl, _, rfl, ?_⟩
      omega
    · refine g_iconst hC dX3_hasLibrary_13 ?_
      refine g_goto (tgt := 18) hC dX3_hasLibrary_14 (by decide) ?_
      refine g_zret hC hI rfl (by decide +kernel) dX3_hasLibrary_18 (Nat.le_of_ble_eq_true rfl) (Nat.le_of_ble_eq_true rfl) ⟨rfl, rfl, rfl, _, rfl, ?_⟩
      omega
set_option maxHeartbeats 4000000 in
set_option maxRecDepth 100000 in
theorem kX3_placeOf (lc : Launch) (D : va_G) (ac : Nat → ClassId) {sh : Nat → Nat × Nat} {rf : Nat → Nat → Option Nat} {mem : Nat → Nat → Int} (l n : Int)  : gMet lc D ac mX3_placeOf 0 [.int (iI l), .int (iI n)] 0 0 sh rf mem (pP sh rf mem (fun r => r = (l - 1) * 100 + n)) := by
  refine gMet.mk (by decide) (by intro v hv; simp at hv; (try rcases hv with rfl | rfl) <;> rfl) (Nat.le_of_ble_eq_true rfl) (fun X hC hI => ?_)
  show gG X sh rf mem 0 0 0 [some (.int (iI l)), some (.int (iI n))] []
  refine g_iload_n hC dX3_placeOf_0 rfl ?_
  refine g_iconst hC dX3_placeOf_1 ?_
  refine g_isub hC dX3_placeOf_2 ?_
  refine g_bipush hC dX3_placeOf_3 (by decide +kernel) ?_
  refine g_imul hC dX3_placeOf_5 ?_
  refine g_iload_n hC dX3_placeOf_6 rfl ?_
  refine g_iadd hC dX3_placeOf_7 ?_
  refine g_iret hC hI rfl dX3_placeOf_8 (Nat.le_of_ble_eq_true rfl) (Nat.le_of_ble_eq_true rfl) ⟨rfl, rfl, rfl, _, rfl, ?_⟩
  rfl
set_option maxHeartbeats 4000000 in
set_option maxRecDepth 100000 in
theorem kX3_isNameOrNone (lc : Launch) (D : va_G) (ac : Nat → ClassId) {sh : Nat → Nat × Nat} {rf : Nat → Nat → Option Nat} {mem : Nat → Nat → Int} (n : Int) (h_p : inR n) : gMet lc D ac mX3_isNameOrNone 1 [.int (iI n)] 0 0 sh rf mem (pP sh rf mem (fun r => (r = 1 ∧ (n = -1 ∨ (0 ≤ n ∧ n < 100))) ∨ (r = 0 ∧ ¬ (n = -1 ∨ (0 ≤ n ∧ n < 100))))) := by
  refine gMet.mk (by decide) (by intro v hv; simp at hv; (try rcases hv with rfl) <;> rfl) (Nat.le_of_ble_eq_true rfl) (fun X hC hI => ?_)
  show gG X sh rf mem 0 0 0 [some (.int (iI n))] []
  have i_p := h_p
  obtain ⟨p1, p2⟩ := h_p
  refine g_iload_n hC dX3_isNameOrNone_0 rfl ?_
  refine g_iconst hC dX3_isNameOrNone_1 ?_
  refine g_icmp_eq (tgt := 12) hC dX3_isNameOrNone_2 (by decide) ⟨by omega, by omega⟩ ⟨by omega, by omega⟩ (fun h2 => ?_) (fun h2 => ?_)
  · refine g_iconst hC dX3_isNameOrNone_12 ?_
    refine g_goto (tgt := 17) hC dX3_isNameOrNone_13 (by decide) ?_
    refine g_zret hC hI rfl (by decide +kernel) dX3_isNameOrNone_17 (Nat.le_of_ble_eq_true rfl) (Nat.le_of_ble_eq_true rfl) ⟨rfl, rfl, rfl, _, rfl, ?_⟩
    omega
  · refine g_iload_n hC dX3_isNameOrNone_5 rfl ?_
    refine g_SPn hC (kX9_isName (gl X) (gD X) (gac X) n i_p) csX9_isName lkX3_36 rfl rfl (Nat.le_of_ble_eq_true rfl) (hI.fit (Nat.le_of_ble_eq_true rfl) (Nat.le_of_ble_eq_true rfl) (Nat.le_of_ble_eq_true rfl)) dX3_isNameOrNone_6 (fun x6 hx6 => ?_)
    refine g_if_eq (tgt := 16) hC dX3_isNameOrNone_9 (by decide) ⟨by omega, by omega⟩ (fun h9 => ?_) (fun h9 => ?_)
    · refine g_iconst hC dX3_isNameOrNone_16 ?_
      refine g_zret hC hI rfl (by decide +kernel) dX3_isNameOrNone_17 (Nat.le_of_ble_eq_true rfl) (Nat.le_of_ble_eq_true rfl) ⟨rfl, rfl, rfl, _, rfl, ?_⟩
      omega
    · refine g_iconst hC dX3_isNameOrNone_12 ?_
      refine g_goto (tgt := 17) hC dX3_isNameOrNone_13 (by decide) ?_
      refine g_zret hC hI rfl (by decide +kernel) dX3_isNameOrNone_17 (Nat.le_of_ble_eq_true rfl) (Nat.le_of_ble_eq_true rfl) ⟨rfl, rfl, rfl, _, rfl, ?_⟩
      omega
set_option maxHeartbeats 4000000 in
set_option maxRecDepth 100000 in
theorem kX3_firstName (lc : Launch) (D : va_G) (ac : Nat → ClassId) {sh : Nat → Nat × Nat} {rf : Nat → Nat → Option Nat} {mem : Nat → Nat → Int} (n : Int) (h_p : inR n) : gMet lc D ac mX3_firstName 0 [.int (iI n)] 0 0 sh rf mem (pP sh rf mem (fun r => (n = -1 ∧ r = 0) ∨ (n ≠ -1 ∧ r = n))) := by
  refine gMet.mk (by decide) (by intro v hv; simp at hv; (try rcases hv with rfl) <;> rfl) (Nat.le_of_ble_eq_true rfl) (fun X hC hI => ?_)
  show gG X sh rf mem 0 0 0 [some (.int (iI n))] []
  have i_p := h_p
  obtain ⟨p1, p2⟩ := h_p
  refine g_iload_n hC dX3_firstName_0 rfl ?_
  refine g_iconst hC dX3_firstName_1 ?_
  refine g_icmp_ne (tgt := 9) hC dX3_firstName_2 (by decide) ⟨by omega, by omega⟩ ⟨by omega, by omega⟩ (fun h2 => ?_) (fun h2 => ?_)
  · refine g_iload_n hC dX3_firstName_9 rfl ?_
    refine g_iret hC hI rfl dX3_firstName_10 (Nat.le_of_ble_eq_true rfl) (Nat.le_of_ble_eq_true rfl) ⟨rfl, rfl, rfl, _, rfl, ?_⟩
    omega
  · refine g_iconst hC dX3_firstName_5 ?_
    refine g_goto (tgt := 10) hC dX3_firstName_6 (by decide) ?_
    refine g_iret hC hI rfl dX3_firstName_10 (Nat.le_of_ble_eq_true rfl) (Nat.le_of_ble_eq_true rfl) ⟨rfl, rfl, rfl, _, rfl, ?_⟩
    omega
set_option maxHeartbeats 4000000 in
set_option maxRecDepth 100000 in
theorem kX3_lastName (lc : Launch) (D : va_G) (ac : Nat → ClassId) {sh : Nat → Nat × Nat} {rf : Nat → Nat → Option Nat} {mem : Nat → Nat → Int} (n : Int) (h_p : inR n) : gMet lc D ac mX3_lastName 0 [.int (iI n)] 0 0 sh rf mem (pP sh rf mem (fun r => (n = -1 ∧ r = 99) ∨ (n ≠ -1 ∧ r = n))) := by
  refine gMet.mk (by decide) (by intro v hv; simp at hv; (try rcases hv with rfl) <;> rfl) (Nat.le_of_ble_eq_true rfl) (fun X hC hI => ?_)
  show gG X sh rf mem 0 0 0 [some (.int (iI n))] []
  have i_p := h_p
  obtain ⟨p1, p2⟩ := h_p
  refine g_iload_n hC dX3_lastName_0 rfl ?_
  refine g_iconst hC dX3_lastName_1 ?_
  refine g_icmp_ne (tgt := 10) hC dX3_lastName_2 (by decide) ⟨by omega, by omega⟩ ⟨by omega, by omega⟩ (fun h2 => ?_) (fun h2 => ?_)
  · refine g_iload_n hC dX3_lastName_10 rfl ?_
    refine g_iret hC hI rfl dX3_lastName_11 (Nat.le_of_ble_eq_true rfl) (Nat.le_of_ble_eq_true rfl) ⟨rfl, rfl, rfl, _, rfl, ?_⟩
    omega
  · refine g_bipush hC dX3_lastName_5 (by decide +kernel) ?_
    refine g_goto (tgt := 11) hC dX3_lastName_7 (by decide) ?_
    refine g_iret hC hI rfl dX3_lastName_11 (Nat.le_of_ble_eq_true rfl) (Nat.le_of_ble_eq_true rfl) ⟨rfl, rfl, rfl, _, rfl, ?_⟩
    omega
set_option maxHeartbeats 4000000 in
set_option maxRecDepth 100000 in
theorem kX3_isReplacing (lc : Launch) (D : va_G) (ac : Nat → ClassId) {sh : Nat → Nat × Nat} {rf : Nat → Nat → Option Nat} {mem : Nat → Nat → Int} (a a0 a1 a2 : Nat) (la l0 l1 l2 : Nat → Nat) (rp : List Int) (ms : List (Option MemT)) (l : Int) (hO : LbO sh rf a a0 a1 a2) (hv : LbV sh rf mem a a0 a1 a2 la l0 l1 l2 rp ms) (h_p : inR l) : gMet lc D ac mX3_isReplacing 1 [.ref a, .int (iI l)] 0 0 sh rf mem (pP sh rf mem (fun r => (r = 1 ∧ 1 ≤ l ∧ l ≤ rp.length ∧ rp.getD (l - 1).toNat 0 = 1) ∨ (r = 0 ∧ ¬ (1 ≤ l ∧ l ≤ rp.length ∧ rp.getD (l - 1).toNat 0 = 1)))) := by
  refine gMet.mk (by decide) (by intro v hv; simp at hv; (try rcases hv with rfl | rfl) <;> rfl) (Nat.le_of_ble_eq_true rfl) (fun X hC hI => ?_)
  show gG X sh rf mem 0 0 0 [some (.ref a), some (.int (iI l))] []
  have hO9 := hO
  have hv9 := hv
  obtain ⟨n1, n2, n3, n4, n5, n6⟩ := hO.ne
  obtain ⟨ho, hr0, hr1, hr2, hs0, hs1, hs2⟩ := hO
  obtain ⟨v1, v2, v3, v4, v5, v6, v7, v8, v9⟩ := hv
  have i_p := h_p
  obtain ⟨p1, p2⟩ := h_p
  refine g_aload_n hC dX3_isReplacing_0 rfl ?_
  refine g_iload_n hC dX3_isReplacing_1 rfl ?_
  refine g_VP hC (kX3_hasLibrary (gl X) (gD X) (gac X) a a0 a1 a2 la l0 l1 l2 rp ms l hO9 hv9 i_p) cvX3_hasLibrary lkX3_32 (by assumption) rfl rfl (Nat.le_of_ble_eq_true rfl) (hI.fit (Nat.le_of_ble_eq_true rfl) (Nat.le_of_ble_eq_true rfl) (Nat.le_of_ble_eq_true rfl)) dX3_isReplacing_2 (fun x2 hx2 => ?_)
  refine g_if_eq (tgt := 23) hC dX3_isReplacing_5 (by decide) ⟨by omega, by omega⟩ (fun h5 => ?_) (fun h5 => ?_)
  · refine g_iconst hC dX3_isReplacing_23 ?_
    refine g_zret hC hI rfl (by decide +kernel) dX3_isReplacing_24 (Nat.le_of_ble_eq_true rfl) (Nat.le_of_ble_eq_true rfl) ⟨rfl, rfl, rfl, _, rfl, ?_⟩
    omega
  · refine g_aload_n hC dX3_isReplacing_8 rfl ?_
    refine g_getR hC fdX3_9 (by assumption) (by assumption) dX3_isReplacing_9 ?_
    refine g_iload_n hC dX3_isReplacing_12 rfl ?_
    refine g_iconst hC dX3_isReplacing_13 ?_
    refine g_isub hC dX3_isReplacing_14 ?_
    refine g_zald hC (by assumption) (by omega) (by omega) (by decide) dX3_isReplacing_15 ?_
    have q := v5 (l - 1).toNat (by omega)
    refine g_if_eq (tgt := 23) hC dX3_isReplacing_16 (by decide) ⟨by omega, by omega⟩ (fun h16 => ?_) (fun h16 => ?_)
    · refine g_iconst hC dX3_isReplacing_23 ?_
      refine g_zret hC hI rfl (by decide +kernel) dX3_isReplacing_24 (Nat.le_of_ble_eq_true rfl) (Nat.le_of_ble_eq_true rfl) ⟨rfl, rfl, rfl, _, rfl, ?_⟩
      omega
    · refine g_iconst hC dX3_isReplacing_19 ?_
      refine g_goto (tgt := 24) hC dX3_isReplacing_20 (by decide) ?_
      refine g_zret hC hI rfl (by decide +kernel) dX3_isReplacing_24 (Nat.le_of_ble_eq_true rfl) (Nat.le_of_ble_eq_true rfl) ⟨rfl, rfl, rfl, _, rfl, ?_⟩
      omega
set_option maxHeartbeats 4000000 in
set_option maxRecDepth 100000 in
theorem kX3_numberOf (lc : Launch) (D : va_G) (ac : Nat → ClassId) {sh : Nat → Nat × Nat} {rf : Nat → Nat → Option Nat} {mem : Nat → Nat → Int} (a a0 a1 a2 : Nat) (la l0 l1 l2 : Nat → Nat) (rp : List Int) (ms : List (Option MemT)) (l n : Int) (hO : LbO sh rf a a0 a1 a2) (hv : LbV sh rf mem a a0 a1 a2 la l0 l1 l2 rp ms) (h_p : inR l) (h_q : inR n) : gMet lc D ac mX3_numberOf 1 [.ref a, .int (iI l), .int (iI n)] 0 0 sh rf mem (pP sh rf mem (fun r => r = memS ms l n)) := by
  refine gMet.mk (by decide) (by intro v hv; simp at hv; (try rcases hv with rfl | rfl | rfl) <;> rfl) (Nat.le_of_ble_eq_true rfl) (fun X hC hI => ?_)
  show gG X sh rf mem 0 0 0 [some (.ref a), some (.int (iI l)), some (.int (iI n))] []
  have hO9 := hO
  have hv9 := hv
  obtain ⟨n1, n2, n3, n4, n5, n6⟩ := hO.ne
  obtain ⟨ho, hr0, hr1, hr2, hs0, hs1, hs2⟩ := hO
  obtain ⟨v1, v2, v3, v4, v5, v6, v7, v8, v9⟩ := hv
  have i_p := h_p
  obtain ⟨p1, p2⟩ := h_p
  have i_q := h_q
  obtain ⟨q1, q2⟩ := h_q
  refine g_aload_n hC dX3_numberOf_0 rfl ?_
  refine g_iload_n hC dX3_numberOf_1 rfl ?_
  refine g_VP hC (kX3_hasLibrary (gl X) (gD X) (gac X) a a0 a1 a2 la l0 l1 l2 rp ms l hO9 hv9 i_p) cvX3_hasLibrary lkX3_32 (by assumption) rfl rfl (Nat.le_of_ble_eq_true rfl) (hI.fit (Nat.le_of_ble_eq_true rfl) (Nat.le_of_ble_eq_true rfl) (Nat.le_of_ble_eq_true rfl)) dX3_numberOf_2 (fun x2 hx2 => ?_)
  refine g_if_eq (tgt := 28) hC dX3_numberOf_5 (by decide) ⟨by omega, by omega⟩ (fun h5 => ?_) (fun h5 => ?_)
  · refine g_iconst hC dX3_numberOf_28 ?_
    refine g_iret hC hI rfl dX3_numberOf_29 (Nat.le_of_ble_eq_true rfl) (Nat.le_of_ble_eq_true rfl) ⟨rfl, rfl, rfl, _, rfl, ?_⟩
    first | exact q | (rw [memS_out hv9 (by omega)]; rfl)
  · refine g_iload_n hC dX3_numberOf_8 rfl ?_
    refine g_SPn hC (kX9_isName (gl X) (gD X) (gac X) n i_q) csX9_isName lkX3_36 rfl rfl (Nat.le_of_ble_eq_true rfl) (hI.fit (Nat.le_of_ble_eq_true rfl) (Nat.le_of_ble_eq_true rfl) (Nat.le_of_ble_eq_true rfl)) dX3_numberOf_9 (fun x9 hx9 => ?_)
    refine g_if_eq (tgt := 28) hC dX3_numberOf_12 (by decide) ⟨by omega, by omega⟩ (fun h12 => ?_) (fun h12 => ?_)
    · refine g_iconst hC dX3_numberOf_28 ?_
      refine g_iret hC hI rfl dX3_numberOf_29 (Nat.le_of_ble_eq_true rfl) (Nat.le_of_ble_eq_true rfl) ⟨rfl, rfl, rfl, _, rfl, ?_⟩
      first | exact q | (rw [memS_out hv9 (by omega)]; rfl)
    · refine g_aload_n hC dX3_numberOf_15 rfl ?_
      refine g_getR hC fdX3_21 (by assumption) (by assumption) dX3_numberOf_16 ?_
      refine g_iload_n hC dX3_numberOf_19 rfl ?_
      refine g_iload_n hC dX3_numberOf_20 rfl ?_
      refine g_SP hC (kX3_placeOf (gl X) (gD X) (gac X) l n) csX3_placeOf lkX3_39 rfl rfl (Nat.le_of_ble_eq_true rfl) (hI.fit (Nat.le_of_ble_eq_true rfl) (Nat.le_of_ble_eq_true rfl) (Nat.le_of_ble_eq_true rfl)) dX3_numberOf_21 (fun x21 hx21 => ?_)
      subst hx21
      refine g_iald hC (by assumption) (by omega) (by omega) (by decide) dX3_numberOf_24 ?_
      have q := v8 l n (by omega) (by omega) (by omega) (by omega)
      refine g_goto (tgt := 29) hC dX3_numberOf_25 (by decide) ?_
      refine g_iret hC hI rfl dX3_numberOf_29 (Nat.le_of_ble_eq_true rfl) (Nat.le_of_ble_eq_true rfl) ⟨rfl, rfl, rfl, _, rfl, ?_⟩
      first | exact q | (rw [memS_out hv9 (by omega)]; rfl)
set_option maxHeartbeats 4000000 in
set_option maxRecDepth 100000 in
theorem kX3_linesOf (lc : Launch) (D : va_G) (ac : Nat → ClassId) {sh : Nat → Nat × Nat} {rf : Nat → Nat → Option Nat} {mem : Nat → Nat → Int} (a a0 a1 a2 : Nat) (la l0 l1 l2 : Nat → Nat) (rp : List Int) (ms : List (Option MemT)) (n : Int) (hO : LbO sh rf a a0 a1 a2) (hv : LbV sh rf mem a a0 a1 a2 la l0 l1 l2 rp ms) (h_p : inR n) : gMet lc D ac mX3_linesOf 0 [.ref a, .int (iI n)] 0 0 sh rf mem (pR sh rf mem (fun r => r = (memAt ms n).map (fun _ => la (n - 1).toNat))) := by
  refine gMet.mk (by decide) (by intro v hv; simp at hv; (try rcases hv with rfl | rfl) <;> rfl) (Nat.le_of_ble_eq_true rfl) (fun X hC hI => ?_)
  show gG X sh rf mem 0 0 0 [some (.ref a), some (.int (iI n))] []
  have hO9 := hO
  have hv9 := hv
  obtain ⟨n1, n2, n3, n4, n5, n6⟩ := hO.ne
  obtain ⟨ho, hr0, hr1, hr2, hs0, hs1, hs2⟩ := hO
  obtain ⟨v1, v2, v3, v4, v5, v6, v7, v8, v9⟩ := hv
  have i_p := h_p
  obtain ⟨p1, p2⟩ := h_p
  refine g_iload_n hC dX3_linesOf_0 rfl ?_
  refine g_iconst hC dX3_linesOf_1 ?_
  refine g_icmp_lt (tgt := 24) hC dX3_linesOf_2 (by decide) ⟨by omega, by omega⟩ ⟨by omega, by omega⟩ (fun h2 => ?_) (fun h2 => ?_)
  · refine g_null hC dX3_linesOf_24 ?_
    refine g_aret (r := none) hC hI rfl dX3_linesOf_25 (Nat.le_of_ble_eq_true rfl) (Nat.le_of_ble_eq_true rfl) ⟨rfl, rfl, rfl, _, rfl, ?_⟩
    first
    | (have q := v6 (n - 1).toNat (by omega)
       rw [memAt, if_pos (by omega)]
       cases e : ms.getD (n - 1).toNat none with
       | none => exact q.1 e
       | some y => exact (q.2 y e).1)
    | (rw [memAt]
       split
       · first | (exfalso; omega) | (rw [List.getD_eq_getElem?_getD, List.getElem?_eq_none (by omega)]; rfl)
       · first | (exfalso; omega) | rfl)
  · refine g_iload_n hC dX3_linesOf_5 rfl ?_
    refine g_aload_n hC dX3_linesOf_6 rfl ?_
    refine g_getI hC fdX3_29 (by assumption) dX3_linesOf_7 ?_
    refine g_icmp_gt (tgt := 24) hC dX3_linesOf_10 (by decide) ⟨by omega, by omega⟩ ⟨by omega, by omega⟩ (fun h10 => ?_) (fun h10 => ?_)
    · refine g_null hC dX3_linesOf_24 ?_
      refine g_aret (r := none) hC hI rfl dX3_linesOf_25 (Nat.le_of_ble_eq_true rfl) (Nat.le_of_ble_eq_true rfl) ⟨rfl, rfl, rfl, _, rfl, ?_⟩
      first
      | (have q := v6 (n - 1).toNat (by omega)
         rw [memAt, if_pos (by omega)]
         cases e : ms.getD (n - 1).toNat none with
         | none => exact q.1 e
         | some y => exact (q.2 y e).1)
      | (rw [memAt]
         split
         · first | (exfalso; omega) | (rw [List.getD_eq_getElem?_getD, List.getElem?_eq_none (by omega)]; rfl)
         · first | (exfalso; omega) | rfl)
    · refine g_aload_n hC dX3_linesOf_13 rfl ?_
      refine g_getR hC fdX3_17 (by assumption) (by assumption) dX3_linesOf_14 ?_
      refine g_iload_n hC dX3_linesOf_17 rfl ?_
      refine g_iconst hC dX3_linesOf_18 ?_
      refine g_isub hC dX3_linesOf_19 ?_
      refine g_aald hC (by assumption) (by decide) (by omega) (by omega) (by decide) dX3_linesOf_20 ?_
      refine g_goto (tgt := 25) hC dX3_linesOf_21 (by decide) ?_
      refine g_aret (r := _) hC hI rfl dX3_linesOf_25 (Nat.le_of_ble_eq_true rfl) (Nat.le_of_ble_eq_true rfl) ⟨rfl, rfl, rfl, _, rfl, ?_⟩
      first
      | (have q := v6 (n - 1).toNat (by omega)
         rw [memAt, if_pos (by omega)]
         cases e : ms.getD (n - 1).toNat none with
         | none => exact q.1 e
         | some y => exact (q.2 y e).1)
      | (rw [memAt]
         split
         · first | (exfalso; omega) | (rw [List.getD_eq_getElem?_getD, List.getElem?_eq_none (by omega)]; rfl)
         · first | (exfalso; omega) | rfl)
