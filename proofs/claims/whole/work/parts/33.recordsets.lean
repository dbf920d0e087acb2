/-! RecordSets: the sets by their numbers -/
abbrev SetT : Type := Int × Int × List Int × Nat
def RSs (sh : Nat → Nat × Nat) (rf : Nat → Nat → Option Nat) (mem : Nat → Nat → Int) (a a0 : Nat) (sa ra : Nat → Nat) (ss : List (Option SetT)) : Prop :=
  sh a = (7, 0) ∧ rf a 0 = some a0 ∧ sh a0 = (16, 20) ∧ mem a 1 = ss.length ∧ ss.length ≤ 20 ∧
  (∀ i, i < ss.length → (ss.getD i none = none → rf a0 i = none) ∧ ∀ x, ss.getD i none = some x → rf a0 i = some (sa i) ∧ RsO sh rf (sa i) (ra i) ∧ RsV mem (sa i) (ra i) x.1 x.2.1 x.2.2.1 x.2.2.2) ∧
  (∀ i j, i < ss.length → j < ss.length → i ≠ j → ss.getD i none ≠ none → ss.getD j none ≠ none → sa i ≠ sa j ∧ ra i ≠ ra j)
def setAt (ss : List (Option SetT)) (n : Int) : Option SetT := if 1 ≤ n then ss.getD (n - 1).toNat none else none
def nmIs (ss : List (Option SetT)) (i : Nat) (n : Int) : Prop := ∃ x, ss.getD i none = some x ∧ x.1 = n
/-- the number of the set of a name, 0 without -/
def numS : List (Option SetT) → Int → Nat
  | [], _ => 0
  | o :: t, n => if (o.map (·.1)) = some n then 1 else if numS t n = 0 then 0 else numS t n + 1
theorem nmIs_0 {o : Option SetT} {t : List (Option SetT)} {n : Int} : nmIs (o :: t) 0 n ↔ o.map (·.1) = some n := by
  unfold nmIs
  cases o with
  | none => simp
  | some x => simp
theorem nmIs_s {o : Option SetT} {t : List (Option SetT)} {n : Int} {i : Nat} : nmIs (o :: t) (i + 1) n ↔ nmIs t i n := by
  unfold nmIs
  simp
theorem numS_zero {n : Int} : ∀ {ss : List (Option SetT)}, (∀ i, i < ss.length → ¬ nmIs ss i n) → numS ss n = 0
  | [], _ => rfl
  | o :: t, h => by
    have h0 : ¬ o.map (·.1) = some n := fun q => h 0 (by simp) (nmIs_0.mpr q)
    have ht : numS t n = 0 := numS_zero (fun i hi q => h (i + 1) (by simpa using hi) (nmIs_s.mpr q))
    rw [numS, if_neg h0, if_pos ht]
theorem numS_pos {n : Int} : ∀ {ss : List (Option SetT)} {k : Nat}, nmIs ss k n → (∀ i, i < k → ¬ nmIs ss i n) → numS ss n = k + 1
  | [], k, h, _ => by
    obtain ⟨x, hx, -⟩ := h
    simp at hx
  | o :: t, 0, h, _ => by rw [numS, if_pos (nmIs_0.mp h)]
  | o :: t, k + 1, h, hm => by
    have h0 : ¬ o.map (·.1) = some n := fun q => hm 0 (by omega) (nmIs_0.mpr q)
    have ht : numS t n = k + 1 := numS_pos (nmIs_s.mp h) (fun i hi q => hm (i + 1) (by omega) (nmIs_s.mpr q))
    rw [numS, if_neg h0, if_neg (by omega), ht]
theorem numS_le (n : Int) : ∀ (ss : List (Option SetT)), numS ss n ≤ ss.length
  | [] => Nat.le_refl _
  | o :: t => by
    have := numS_le n t
    simp only [numS, List.length_cons]
    split
    · omega
    · split <;> omega
theorem numS_is {n : Int} : ∀ {ss : List (Option SetT)}, numS ss n ≠ 0 → nmIs ss (numS ss n - 1) n
  | [], h => absurd rfl h
  | o :: t, h => by
    by_cases h0 : o.map (·.1) = some n
    · rw [numS, if_pos h0]
      exact nmIs_0.mpr h0
    · rw [numS, if_neg h0] at h ⊢
      by_cases h1 : numS t n = 0
      · rw [if_pos h1] at h
        exact absurd rfl h
      · rw [if_neg h1]
        have h2 := numS_is h1
        have e : numS t n + 1 - 1 = (numS t n - 1) + 1 := by omega
        rw [e]
        exact nmIs_s.mpr h2
theorem setAt_some {ss : List (Option SetT)} {n : Int} {x : SetT} (h : setAt ss n = some x) : 1 ≤ n ∧ n ≤ ss.length ∧ ss.getD (n - 1).toNat none = some x := by
  unfold setAt at h
  split at h
  · refine ⟨by omega, ?_, h⟩
    apply Classical.byContradiction
    intro q
    rw [List.getD_eq_getElem?_getD, List.getElem?_eq_none (by omega)] at h
    simp at h
  · simp at h
theorem setAt_num {ss : List (Option SetT)} {n : Int} (h : numS ss n ≠ 0) : ∃ x, setAt ss (numS ss n) = some x ∧ x.1 = n := by
  obtain ⟨x, h1, h2⟩ := numS_is h
  refine ⟨x, ?_, h2⟩
  rw [setAt, if_pos (by omega), show ((numS ss n : Int) - 1).toNat = numS ss n - 1 by omega]
  exact h1
theorem setAt_0 {ss : List (Option SetT)} {n : Int} (h : n < 1) : setAt ss n = none := by rw [setAt, if_neg (by omega)]
/-- what the heap has of a set that is there -/
theorem RSs.at {sh : Nat → Nat × Nat} {rf : Nat → Nat → Option Nat} {mem : Nat → Nat → Int} {a a0 : Nat} {sa ra : Nat → Nat} {ss : List (Option SetT)} (h : RSs sh rf mem a a0 sa ra ss) {n : Int} {x : SetT} (hx : setAt ss n = some x) : RsO sh rf (sa (n - 1).toNat) (ra (n - 1).toNat) ∧ RsV mem (sa (n - 1).toNat) (ra (n - 1).toNat) x.1 x.2.1 x.2.2.1 x.2.2.2 := by
  obtain ⟨h1, h2, h3⟩ := setAt_some hx
  exact ((h.2.2.2.2.2.1 (n - 1).toNat (by omega)).2 x h3).2
set_option maxHeartbeats 4000000 in
set_option maxRecDepth 100000 in
theorem kX7_setsMade (l : Launch) (D : va_G) (ac : Nat → ClassId) {sh : Nat → Nat × Nat} {rf : Nat → Nat → Option Nat} {mem : Nat → Nat → Int} (a a0 : Nat) (sa ra : Nat → Nat) (ss : List (Option SetT)) (hS : RSs sh rf mem a a0 sa ra ss) : gMet l D ac mX7_setsMade 0 [.ref a] 0 0 sh rf mem (pP sh rf mem (fun r => r = ss.length)) := by
  refine gMet.mk (by decide) (by intro v hv; simp at hv; (try rcases hv with rfl) <;> rfl) (Nat.le_of_ble_eq_true rfl) (fun X hC hI => ?_)
  show gG X sh rf mem 0 0 0 [some (.ref a)] []
  have hS9 := hS
  obtain ⟨ho, hr0, hs0, hc, hl, hv, hj⟩ := hS
  refine g_aload_n hC dX7_setsMade_0 rfl ?_
  refine g_getI hC fdX7_17 (by assumption) dX7_setsMade_1 ?_
  refine g_iret hC hI rfl dX7_setsMade_4 (Nat.le_of_ble_eq_true rfl) (Nat.le_of_ble_eq_true rfl) ⟨rfl, rfl, rfl, _, rfl, ?_⟩
  omega
set_option maxHeartbeats 4000000 in
set_option maxRecDepth 100000 in
theorem kX7_hasRoom (l : Launch) (D : va_G) (ac : Nat → ClassId) {sh : Nat → Nat × Nat} {rf : Nat → Nat → Option Nat} {mem : Nat → Nat → Int} (a a0 : Nat) (sa ra : Nat → Nat) (ss : List (Option SetT)) (hS : RSs sh rf mem a a0 sa ra ss) : gMet l D ac mX7_hasRoom 0 [.ref a] 0 0 sh rf mem (pP sh rf mem (fun r => (r = 1 ∧ ss.length < 20) ∨ (r = 0 ∧ ¬ ss.length < 20))) := by
  refine gMet.mk (by decide) (by intro v hv; simp at hv; (try rcases hv with rfl) <;> rfl) (Nat.le_of_ble_eq_true rfl) (fun X hC hI => ?_)
  show gG X sh rf mem 0 0 0 [some (.ref a)] []
  have hS9 := hS
  obtain ⟨ho, hr0, hs0, hc, hl, hv, hj⟩ := hS
  refine g_aload_n hC dX7_hasRoom_0 rfl ?_
  refine g_getI hC fdX7_17 (by assumption) dX7_hasRoom_1 ?_
  refine g_bipush hC dX7_hasRoom_4 (by decide +kernel) ?_
  refine g_icmp_ge (tgt := 13) hC dX7_hasRoom_6 (by decide) ⟨by omega, by omega⟩ ⟨by omega, by omega⟩ (fun h6 => ?_) (fun h6 => ?_)
  · refine g_iconst hC dX7_hasRoom_13 ?_
    refine g_zret hC hI rfl (by decide +kernel) dX7_hasRoom_14 (Nat.le_of_ble_eq_true rfl) (Nat.le_of_ble_eq_true rfl) ⟨rfl, rfl, rfl, _, rfl, ?_⟩
    omega
  · refine g_iconst hC dX7_hasRoom_9 ?_
    refine g_goto (tgt := 14) hC dX7_hasRoom_10 (by decide) ?_
    refine g_zret hC hI rfl (by decide +kernel) dX7_hasRoom_14 (Nat.le_of_ble_eq_true rfl) (Nat.le_of_ble_eq_true rfl) ⟨rfl, rfl, rfl, _, rfl, ?_⟩
    omega
set_option maxHeartbeats 4000000 in
set_option maxRecDepth 100000 in
theorem kX7_at (l : Launch) (D : va_G) (ac : Nat → ClassId) {sh : Nat → Nat × Nat} {rf : Nat → Nat → Option Nat} {mem : Nat → Nat → Int} (a a0 : Nat) (sa ra : Nat → Nat) (ss : List (Option SetT)) (n : Int) (hS : RSs sh rf mem a a0 sa ra ss) (hp : inR n) : gMet l D ac mX7_at 0 [.ref a, .int (iI n)] 0 0 sh rf mem (pR sh rf mem (fun r => r = (setAt ss n).map (fun _ => sa (n - 1).toNat))) := by
  refine gMet.mk (by decide) (by intro v hv; simp at hv; (try rcases hv with rfl | rfl) <;> rfl) (Nat.le_of_ble_eq_true rfl) (fun X hC hI => ?_)
  show gG X sh rf mem 0 0 0 [some (.ref a), some (.int (iI n))] []
  have hS9 := hS
  obtain ⟨ho, hr0, hs0, hc, hl, hv, hj⟩ := hS
  obtain ⟨hp1, hp2⟩ := hp
  refine g_iload_n hC dX7_at_0 rfl ?_
  refine g_iconst hC dX7_at_1 ?_
  refine g_icmp_lt (tgt := 24) hC dX7_at_2 (by decide) ⟨by omega, by omega⟩ ⟨by omega, by omega⟩ (fun h2 => ?_) (fun h2 => ?_)
  · refine g_null hC dX7_at_24 ?_
    refine g_aret (r := none) hC hI rfl dX7_at_25 (Nat.le_of_ble_eq_true rfl) (Nat.le_of_ble_eq_true rfl) ⟨rfl, rfl, rfl, _, rfl, ?_⟩
    first
    | (have q := hv (n - 1).toNat (by omega)
       rw [setAt, if_pos (by omega)]
       cases e : ss.getD (n - 1).toNat none with
       | none => exact q.1 e
       | some y => exact (q.2 y e).1)
    | (rw [setAt]
       split
       · first | (exfalso; omega) | (rw [List.getD_eq_getElem?_getD, List.getElem?_eq_none (by omega)]; rfl)
       · first | (exfalso; omega) | rfl)
  · refine g_iload_n hC dX7_at_5 rfl ?_
    refine g_aload_n hC dX7_at_6 rfl ?_
    refine g_getI hC fdX7_17 (by assumption) dX7_at_7 ?_
    refine g_icmp_gt (tgt := 24) hC dX7_at_10 (by decide) ⟨by omega, by omega⟩ ⟨by omega, by omega⟩ (fun h10 => ?_) (fun h10 => ?_)
    · refine g_null hC dX7_at_24 ?_
      refine g_aret (r := none) hC hI rfl dX7_at_25 (Nat.le_of_ble_eq_true rfl) (Nat.le_of_ble_eq_true rfl) ⟨rfl, rfl, rfl, _, rfl, ?_⟩
      first
      | (have q := hv (n - 1).toNat (by omega)
         rw [setAt, if_pos (by omega)]
         cases e : ss.getD (n - 1).toNat none with
         | none => exact q.1 e
         | some y => exact (q.2 y e).1)
      | (rw [setAt]
         split
         · first | (exfalso; omega) | (rw [List.getD_eq_getElem?_getD, List.getElem?_eq_none (by omega)]; rfl)
         · first | (exfalso; omega) | rfl)
    · refine g_aload_n hC dX7_at_13 rfl ?_
      refine g_getR hC fdX7_11 (by assumption) (by assumption) dX7_at_14 ?_
      refine g_iload_n hC dX7_at_17 rfl ?_
      refine g_iconst hC dX7_at_18 ?_
      refine g_isub hC dX7_at_19 ?_
      refine g_aald hC (by assumption) (by decide) (by omega) (by omega) (by decide) dX7_at_20 ?_
      refine g_goto (tgt := 25) hC dX7_at_21 (by decide) ?_
      refine g_aret (r := _) hC hI rfl dX7_at_25 (Nat.le_of_ble_eq_true rfl) (Nat.le_of_ble_eq_true rfl) ⟨rfl, rfl, rfl, _, rfl, ?_⟩
      first
      | (have q := hv (n - 1).toNat (by omega)
         rw [setAt, if_pos (by omega)]
         cases e : ss.getD (n - 1).toNat none with
         | none => exact q.1 e
         | some y => exact (q.2 y e).1)
      | (rw [setAt]
         split
         · first | (exfalso; omega) | (rw [List.getD_eq_getElem?_getD, List.getElem?_eq_none (by omega)]; rfl)
         · first | (exfalso; omega) | rfl)
set_option maxHeartbeats 4000000 in
set_option maxRecDepth 100000 in
theorem kX7_numberOf (l : Launch) (D : va_G) (ac : Nat → ClassId) {sh : Nat → Nat × Nat} {rf : Nat → Nat → Option Nat} {mem : Nat → Nat → Int} (a a0 : Nat) (sa ra : Nat → Nat) (ss : List (Option SetT)) (n : Int) (hS : RSs sh rf mem a a0 sa ra ss) (hp : inR n) : gMet l D ac mX7_numberOf 1 [.ref a, .int (iI n)] 0 0 sh rf mem (pP sh rf mem (fun r => r = numS ss n)) := by
  refine gMet.mk (by decide) (by intro v hv; simp at hv; (try rcases hv with rfl | rfl) <;> rfl) (Nat.le_of_ble_eq_true rfl) (fun X hC hI => ?_)
  show gG X sh rf mem 0 0 0 [some (.ref a), some (.int (iI n)), none, none] []
  have hS9 := hS
  obtain ⟨ho, hr0, hs0, hc, hl, hv, hj⟩ := hS
  have hp9 := hp
  obtain ⟨hp1, hp2⟩ := hp
  have J2 : ∀ (t k : Nat), k ≤ ss.length → ss.length < k + t → (∀ j, j < k → ¬ nmIs ss j n) → ∀ o, gG X sh rf mem 0 0 2 [some (.ref a), some (.int (iI n)), some (.int (iI k)), o] [] := by
    intro t
    induction t with
    | zero => intro k k1 k2; omega
    | succ t ih =>
      intro k k1 k2 k3 o
      refine g_iload_n hC dX7_numberOf_2 rfl ?_
      refine g_aload_n hC dX7_numberOf_3 rfl ?_
      refine g_getI hC fdX7_17 (by assumption) dX7_numberOf_4 ?_
      refine g_icmp_ge (tgt := 39) hC dX7_numberOf_7 (by decide) ⟨by omega, by omega⟩ ⟨by omega, by omega⟩ (fun h7 => ?_) (fun h7 => ?_)
      · refine g_iconst hC dX7_numberOf_39 ?_
        refine g_iret hC hI rfl dX7_numberOf_40 (Nat.le_of_ble_eq_true rfl) (Nat.le_of_ble_eq_true rfl) ⟨rfl, rfl, rfl, _, rfl, ?_⟩
        have := numS_zero (n := n) (ss := ss) (fun i hi => k3 i (by omega))
        omega
      · refine g_aload_n hC dX7_numberOf_10 rfl ?_
        refine g_getR hC fdX7_11 (by assumption) (by assumption) dX7_numberOf_11 ?_
        refine g_iload_n hC dX7_numberOf_14 rfl ?_
        refine g_aald hC (by assumption) (by decide) (by omega) (by omega) (by decide) dX7_numberOf_15 ?_
        rw [Int.toNat_natCast]
        have q := hv k (by omega)
        rcases e : ss.getD k none with _ | y
        · rw [q.1 e]
          refine g_astore_nN hC 3 rfl dX7_numberOf_16 (Nat.le_of_ble_eq_true rfl) ?_
          dsimp only [List.set]
          refine g_aload_nN hC dX7_numberOf_17 rfl ?_
          refine g_ifnullN (tgt := 33) hC dX7_numberOf_18 (by decide) ?_
          refine g_iinc hC dX7_numberOf_33 rfl ?_
          dsimp only [List.set]
          refine g_goto (tgt := 2) hC dX7_numberOf_36 (by decide) ?_
          first | exact J2 (ss.length + 1) 0 (Nat.zero_le _) (by omega) (fun j hj => absurd hj (Nat.not_lt_zero j)) _ | exact ih (k + 1) (by omega) (by omega) (fun j hj => by rcases Nat.lt_succ_iff_lt_or_eq.mp hj with q | rfl; exact k3 j q; rintro ⟨z, z1, z2⟩; simp_all) _
        · obtain ⟨q1, q2, q3⟩ := q.2 y e
          rw [q1]
          refine g_astore_n hC 3 rfl dX7_numberOf_16 (Nat.le_of_ble_eq_true rfl) ?_
          dsimp only [List.set]
          refine g_aload_n hC dX7_numberOf_17 rfl ?_
          refine g_ifnullR hC dX7_numberOf_18 ?_
          have q9 := q2.1
          refine g_aload_n hC dX7_numberOf_21 rfl ?_
          refine g_iload_n hC dX7_numberOf_22 rfl ?_
          refine g_VP hC (kX6_hasName (gl X) (gD X) (gac X) (sa k) (ra k) y.1 y.2.1 y.2.2.1 y.2.2.2 n q2 q3 hp9) cvX6_hasName lkX7_72 (by assumption) rfl rfl (Nat.le_of_ble_eq_true rfl) (hI.fit (Nat.le_of_ble_eq_true rfl) (Nat.le_of_ble_eq_true rfl) (Nat.le_of_ble_eq_true rfl)) dX7_numberOf_23 (fun x23 hx23 => ?_)
          refine g_if_eq (tgt := 33) hC dX7_numberOf_26 (by decide) ⟨by omega, by omega⟩ (fun h26 => ?_) (fun h26 => ?_)
          · refine g_iinc hC dX7_numberOf_33 rfl ?_
            dsimp only [List.set]
            refine g_goto (tgt := 2) hC dX7_numberOf_36 (by decide) ?_
            first | exact J2 (ss.length + 1) 0 (Nat.zero_le _) (by omega) (fun j hj => absurd hj (Nat.not_lt_zero j)) _ | exact ih (k + 1) (by omega) (by omega) (fun j hj => by rcases Nat.lt_succ_iff_lt_or_eq.mp hj with q | rfl; exact k3 j q; rintro ⟨z, z1, z2⟩; simp_all) _
          · refine g_iload_n hC dX7_numberOf_29 rfl ?_
            refine g_iconst hC dX7_numberOf_30 ?_
            refine g_iadd hC dX7_numberOf_31 ?_
            refine g_iret hC hI rfl dX7_numberOf_32 (Nat.le_of_ble_eq_true rfl) (Nat.le_of_ble_eq_true rfl) ⟨rfl, rfl, rfl, _, rfl, ?_⟩
            have := numS_pos (n := n) (ss := ss) (k := k) ⟨y, e, by omega⟩ k3
            omega
  refine g_iconst hC dX7_numberOf_0 ?_
  refine g_istore_n hC 2 rfl dX7_numberOf_1 (Nat.le_of_ble_eq_true rfl) ?_
  dsimp only [List.set]
  first | exact J2 (ss.length + 1) 0 (Nat.zero_le _) (by omega) (fun j hj => absurd hj (Nat.not_lt_zero j)) _ | exact ih (k + 1) (by omega) (by omega) (fun j hj => by rcases Nat.lt_succ_iff_lt_or_eq.mp hj with q | rfl; exact k3 j q; rintro ⟨z, z1, z2⟩; simp_all) _
set_option maxHeartbeats 4000000 in
set_option maxRecDepth 100000 in
theorem kX7_withName (l : Launch) (D : va_G) (ac : Nat → ClassId) {sh : Nat → Nat × Nat} {rf : Nat → Nat → Option Nat} {mem : Nat → Nat → Int} (a a0 : Nat) (sa ra : Nat → Nat) (ss : List (Option SetT)) (n : Int) (hS : RSs sh rf mem a a0 sa ra ss) (hp : inR n) : gMet l D ac mX7_withName 2 [.ref a, .int (iI n)] 0 0 sh rf mem (pR sh rf mem (fun r => r = (setAt ss (numS ss n)).map (fun _ => sa (numS ss n - 1)))) := by
  refine gMet.mk (by decide) (by intro v hv; simp at hv; (try rcases hv with rfl | rfl) <;> rfl) (Nat.le_of_ble_eq_true rfl) (fun X hC hI => ?_)
  show gG X sh rf mem 0 0 0 [some (.ref a), some (.int (iI n))] []
  have hS9 := hS
  obtain ⟨ho, hr0, hs0, hc, hl, hv, hj⟩ := hS
  have hp9 := hp
  obtain ⟨hp1, hp2⟩ := hp
  have hle := numS_le n ss
  refine g_aload_n hC dX7_withName_0 rfl ?_
  refine g_aload_n hC dX7_withName_1 rfl ?_
  refine g_iload_n hC dX7_withName_2 rfl ?_
  refine g_VP hC (kX7_numberOf (gl X) (gD X) (gac X) a a0 sa ra ss n hS9 hp9) cvX7_numberOf lkX7_21 (by assumption) rfl rfl (Nat.le_of_ble_eq_true rfl) (hI.fit (Nat.le_of_ble_eq_true rfl) (Nat.le_of_ble_eq_true rfl) (Nat.le_of_ble_eq_true rfl)) dX7_withName_3 (fun x3 hx3 => ?_)
  subst hx3
  refine g_VR hC (kX7_at (gl X) (gD X) (gac X) a a0 sa ra ss (numS ss n) hS9 ⟨by omega, by omega⟩) cvX7_at lkX7_25 (by assumption) rfl rfl (Nat.le_of_ble_eq_true rfl) (hI.fit (Nat.le_of_ble_eq_true rfl) (Nat.le_of_ble_eq_true rfl) (Nat.le_of_ble_eq_true rfl)) dX7_withName_6 (fun x6 hx6 => ?_)
  refine g_aret (r := _) hC hI rfl dX7_withName_9 (Nat.le_of_ble_eq_true rfl) (Nat.le_of_ble_eq_true rfl) ⟨rfl, rfl, rfl, _, rfl, ?_⟩
  rw [hx6, show ((numS ss n : Int) - 1).toNat = numS ss n - 1 by omega]
set_option maxHeartbeats 4000000 in
set_option maxRecDepth 100000 in
theorem kX7_deleteCode (l : Launch) (D : va_G) (ac : Nat → ClassId) {sh : Nat → Nat × Nat} {rf : Nat → Nat → Option Nat} {mem : Nat → Nat → Int} (a a0 : Nat) (sa ra : Nat → Nat) (ss : List (Option SetT)) (n : Int) (hS : RSs sh rf mem a a0 sa ra ss) (hp : inR n) : gMet l D ac mX7_deleteCode 1 [.ref a, .int (iI n)] 0 0 sh rf mem (pP sh rf mem (fun r => r = (match setAt ss n with | none => -2 | some x => if x.2.1 = 1 then 8 else 0))) := by
  refine gMet.mk (by decide) (by intro v hv; simp at hv; (try rcases hv with rfl | rfl) <;> rfl) (Nat.le_of_ble_eq_true rfl) (fun X hC hI => ?_)
  show gG X sh rf mem 0 0 0 [some (.ref a), some (.int (iI n)), none] []
  have hS9 := hS
  obtain ⟨ho, hr0, hs0, hc, hl, hv, hj⟩ := hS
  have hp9 := hp
  obtain ⟨hp1, hp2⟩ := hp
  refine g_aload_n hC dX7_deleteCode_0 rfl ?_
  refine g_iload_n hC dX7_deleteCode_1 rfl ?_
  refine g_VR hC (kX7_at (gl X) (gD X) (gac X) a a0 sa ra ss n hS9 hp9) cvX7_at lkX7_25 (by assumption) rfl rfl (Nat.le_of_ble_eq_true rfl) (hI.fit (Nat.le_of_ble_eq_true rfl) (Nat.le_of_ble_eq_true rfl) (Nat.le_of_ble_eq_true rfl)) dX7_deleteCode_2 (fun x2 hx2 => ?_)
  rcases e2 : setAt ss (n) with _ | y2
  · rw [e2] at hx2
    subst hx2
    refine g_astore_nN hC 2 rfl dX7_deleteCode_5 (Nat.le_of_ble_eq_true rfl) ?_
    dsimp only [List.set]
    refine g_aload_nN hC dX7_deleteCode_6 rfl ?_
    refine g_ifnonnullN hC dX7_deleteCode_7 ?_
    refine g_bipush hC dX7_deleteCode_10 (by decide +kernel) ?_
    refine g_iret hC hI rfl dX7_deleteCode_12 (Nat.le_of_ble_eq_true rfl) (Nat.le_of_ble_eq_true rfl) ⟨rfl, rfl, rfl, _, rfl, ?_⟩
    rw [e2]
  · rw [e2] at hx2
    subst hx2
    obtain ⟨O2, V2⟩ := RSs.at hS9 e2
    have o2 := O2.1
    have w2 := V2
    refine g_astore_n hC 2 rfl dX7_deleteCode_5 (Nat.le_of_ble_eq_true rfl) ?_
    dsimp only [List.set]
    refine g_aload_n hC dX7_deleteCode_6 rfl ?_
    refine g_ifnonnullR (tgt := 13) hC dX7_deleteCode_7 (by decide) ?_
    refine g_aload_n hC dX7_deleteCode_13 rfl ?_
    refine g_VP hC (kX6_isGuarded (gl X) (gD X) (gac X) _ _ y2.1 y2.2.1 y2.2.2.1 y2.2.2.2 O2 V2) cvX6_isGuarded lkX7_36 (by assumption) rfl rfl (Nat.le_of_ble_eq_true rfl) (hI.fit (Nat.le_of_ble_eq_true rfl) (Nat.le_of_ble_eq_true rfl) (Nat.le_of_ble_eq_true rfl)) dX7_deleteCode_14 (fun x14 hx14 => ?_)
    subst hx14
    have g9 := V2.2.2.2.2.2.2.2.2.1
    refine g_if_eq (tgt := 25) hC dX7_deleteCode_17 (by decide) ⟨by omega, by omega⟩ (fun h17 => ?_) (fun h17 => ?_)
    · refine g_iconst hC dX7_deleteCode_25 ?_
      refine g_iret hC hI rfl dX7_deleteCode_26 (Nat.le_of_ble_eq_true rfl) (Nat.le_of_ble_eq_true rfl) ⟨rfl, rfl, rfl, _, rfl, ?_⟩
      rw [e2]
      first | (show _ = ite _ _ _; rw [if_pos (by omega)]) | (show _ = ite _ _ _; rw [if_neg (by omega)])
    · refine g_bipush hC dX7_deleteCode_20 (by decide +kernel) ?_
      refine g_goto (tgt := 26) hC dX7_deleteCode_22 (by decide) ?_
      refine g_iret hC hI rfl dX7_deleteCode_26 (Nat.le_of_ble_eq_true rfl) (Nat.le_of_ble_eq_true rfl) ⟨rfl, rfl, rfl, _, rfl, ?_⟩
      rw [e2]
      first | (show _ = ite _ _ _; rw [if_pos (by omega)]) | (show _ = ite _ _ _; rw [if_neg (by omega)])
set_option maxHeartbeats 4000000 in
set_option maxRecDepth 100000 in
theorem kX7_verifyCode (l : Launch) (D : va_G) (ac : Nat → ClassId) {sh : Nat → Nat × Nat} {rf : Nat → Nat → Option Nat} {mem : Nat → Nat → Int} (a a0 : Nat) (sa ra : Nat → Nat) (ss : List (Option SetT)) (n : Int) (hS : RSs sh rf mem a a0 sa ra ss) (hp : inR n) : gMet l D ac mX7_verifyCode 1 [.ref a, .int (iI n)] 0 0 sh rf mem (pP sh rf mem (fun r => r = (match setAt ss n with | none => -2 | some x => if x.2.2.2 = x.2.2.1.length then 4 else 0))) := by
  refine gMet.mk (by decide) (by intro v hv; simp at hv; (try rcases hv with rfl | rfl) <;> rfl) (Nat.le_of_ble_eq_true rfl) (fun X hC hI => ?_)
  show gG X sh rf mem 0 0 0 [some (.ref a), some (.int (iI n)), none] []
  have hS9 := hS
  obtain ⟨ho, hr0, hs0, hc, hl, hv, hj⟩ := hS
  have hp9 := hp
  obtain ⟨hp1, hp2⟩ := hp
  refine g_aload_n hC dX7_verifyCode_0 rfl ?_
  refine g_iload_n hC dX7_verifyCode_1 rfl ?_
  refine g_VR hC (kX7_at (gl X) (gD X) (gac X) a a0 sa ra ss n hS9 hp9) cvX7_at lkX7_25 (by assumption) rfl rfl (Nat.le_of_ble_eq_true rfl) (hI.fit (Nat.le_of_ble_eq_true rfl) (Nat.le_of_ble_eq_true rfl) (Nat.le_of_ble_eq_true rfl)) dX7_verifyCode_2 (fun x2 hx2 => ?_)
  rcases e2 : setAt ss (n) with _ | y2
  · rw [e2] at hx2
    subst hx2
    refine g_astore_nN hC 2 rfl dX7_verifyCode_5 (Nat.le_of_ble_eq_true rfl) ?_
    dsimp only [List.set]
    refine g_aload_nN hC dX7_verifyCode_6 rfl ?_
    refine g_ifnonnullN hC dX7_verifyCode_7 ?_
    refine g_bipush hC dX7_verifyCode_10 (by decide +kernel) ?_
    refine g_iret hC hI rfl dX7_verifyCode_12 (Nat.le_of_ble_eq_true rfl) (Nat.le_of_ble_eq_true rfl) ⟨rfl, rfl, rfl, _, rfl, ?_⟩
    rw [e2]
  · rw [e2] at hx2
    subst hx2
    obtain ⟨O2, V2⟩ := RSs.at hS9 e2
    have o2 := O2.1
    have w2 := V2
    refine g_astore_n hC 2 rfl dX7_verifyCode_5 (Nat.le_of_ble_eq_true rfl) ?_
    dsimp only [List.set]
    refine g_aload_n hC dX7_verifyCode_6 rfl ?_
    refine g_ifnonnullR (tgt := 13) hC dX7_verifyCode_7 (by decide) ?_
    refine g_aload_n hC dX7_verifyCode_13 rfl ?_
    refine g_VP hC (kX6_countsAll (gl X) (gD X) (gac X) _ _ y2.1 y2.2.1 y2.2.2.1 y2.2.2.2 O2 V2) cvX6_countsAll lkX7_53 (by assumption) rfl rfl (Nat.le_of_ble_eq_true rfl) (hI.fit (Nat.le_of_ble_eq_true rfl) (Nat.le_of_ble_eq_true rfl) (Nat.le_of_ble_eq_true rfl)) dX7_verifyCode_14 (fun x14 hx14 => ?_)
    refine g_if_eq (tgt := 24) hC dX7_verifyCode_17 (by decide) ⟨by omega, by omega⟩ (fun h17 => ?_) (fun h17 => ?_)
    · refine g_iconst hC dX7_verifyCode_24 ?_
      refine g_iret hC hI rfl dX7_verifyCode_25 (Nat.le_of_ble_eq_true rfl) (Nat.le_of_ble_eq_true rfl) ⟨rfl, rfl, rfl, _, rfl, ?_⟩
      rw [e2]
      first | (show _ = ite _ _ _; rw [if_pos (by omega)]) | (show _ = ite _ _ _; rw [if_neg (by omega)])
    · refine g_iconst hC dX7_verifyCode_20 ?_
      refine g_goto (tgt := 25) hC dX7_verifyCode_21 (by decide) ?_
      refine g_iret hC hI rfl dX7_verifyCode_25 (Nat.le_of_ble_eq_true rfl) (Nat.le_of_ble_eq_true rfl) ⟨rfl, rfl, rfl, _, rfl, ?_⟩
      rw [e2]
      first | (show _ = ite _ _ _; rw [if_pos (by omega)]) | (show _ = ite _ _ _; rw [if_neg (by omega)])
set_option maxHeartbeats 4000000 in
set_option maxRecDepth 100000 in
theorem kX7_generateCode (l : Launch) (D : va_G) (ac : Nat → ClassId) {sh : Nat → Nat × Nat} {rf : Nat → Nat → Option Nat} {mem : Nat → Nat → Int} (a a0 : Nat) (sa ra : Nat → Nat) (ss : List (Option SetT)) (n c : Int) (hS : RSs sh rf mem a a0 sa ra ss) (hp : inR n) (hq : inR c) : gMet l D ac mX7_generateCode 1 [.ref a, .int (iI n), .int (iI c)] 0 0 sh rf mem (pP sh rf mem (fun r => r = (match setAt ss n with | none => -2 | some x => if c < 1 ∨ 60 < c then -4 else if x.2.2.2 + c ≤ 60 then 0 else 12))) := by
  refine gMet.mk (by decide) (by intro v hv; simp at hv; (try rcases hv with rfl | rfl | rfl) <;> rfl) (Nat.le_of_ble_eq_true rfl) (fun X hC hI => ?_)
  show gG X sh rf mem 0 0 0 [some (.ref a), some (.int (iI n)), some (.int (iI c)), none] []
  have hS9 := hS
  obtain ⟨ho, hr0, hs0, hc, hl, hv, hj⟩ := hS
  have hp9 := hp
  obtain ⟨hp1, hp2⟩ := hp
  obtain ⟨hq1, hq2⟩ := hq
  refine g_aload_n hC dX7_generateCode_0 rfl ?_
  refine g_iload_n hC dX7_generateCode_1 rfl ?_
  refine g_VR hC (kX7_at (gl X) (gD X) (gac X) a a0 sa ra ss n hS9 hp9) cvX7_at lkX7_25 (by assumption) rfl rfl (Nat.le_of_ble_eq_true rfl) (hI.fit (Nat.le_of_ble_eq_true rfl) (Nat.le_of_ble_eq_true rfl) (Nat.le_of_ble_eq_true rfl)) dX7_generateCode_2 (fun x2 hx2 => ?_)
  rcases e2 : setAt ss (n) with _ | y2
  · rw [e2] at hx2
    subst hx2
    refine g_astore_nN hC 3 rfl dX7_generateCode_5 (Nat.le_of_ble_eq_true rfl) ?_
    dsimp only [List.set]
    refine g_aload_nN hC dX7_generateCode_6 rfl ?_
    refine g_ifnonnullN hC dX7_generateCode_7 ?_
    refine g_bipush hC dX7_generateCode_10 (by decide +kernel) ?_
    refine g_iret hC hI rfl dX7_generateCode_12 (Nat.le_of_ble_eq_true rfl) (Nat.le_of_ble_eq_true rfl) ⟨rfl, rfl, rfl, _, rfl, ?_⟩
    rw [e2]
  · rw [e2] at hx2
    subst hx2
    obtain ⟨O2, V2⟩ := RSs.at hS9 e2
    have o2 := O2.1
    have w2 := V2
    refine g_astore_n hC 3 rfl dX7_generateCode_5 (Nat.le_of_ble_eq_true rfl) ?_
    dsimp only [List.set]
    refine g_aload_n hC dX7_generateCode_6 rfl ?_
    refine g_ifnonnullR (tgt := 13) hC dX7_generateCode_7 (by decide) ?_
    refine g_iload_n hC dX7_generateCode_13 rfl ?_
    refine g_iconst hC dX7_generateCode_14 ?_
    refine g_icmp_lt (tgt := 24) hC dX7_generateCode_15 (by decide) ⟨by omega, by omega⟩ ⟨by omega, by omega⟩ (fun h15 => ?_) (fun h15 => ?_)
    · refine g_bipush hC dX7_generateCode_24 (by decide +kernel) ?_
      refine g_iret hC hI rfl dX7_generateCode_26 (Nat.le_of_ble_eq_true rfl) (Nat.le_of_ble_eq_true rfl) ⟨rfl, rfl, rfl, _, rfl, ?_⟩
      rw [e2]
      show _ = ite _ _ _
      rw [if_pos (by omega)]
    · refine g_iload_n hC dX7_generateCode_18 rfl ?_
      refine g_bipush hC dX7_generateCode_19 (by decide +kernel) ?_
      refine g_icmp_le (tgt := 27) hC dX7_generateCode_21 (by decide) ⟨by omega, by omega⟩ ⟨by omega, by omega⟩ (fun h21 => ?_) (fun h21 => ?_)
      · refine g_aload_n hC dX7_generateCode_27 rfl ?_
        refine g_iload_n hC dX7_generateCode_28 rfl ?_
        refine g_VP hC (kX6_hasRoomFor (gl X) (gD X) (gac X) _ _ y2.1 y2.2.1 y2.2.2.1 y2.2.2.2 c O2 V2 ⟨by omega, by omega⟩) cvX6_hasRoomFor lkX7_50 (by assumption) rfl rfl (Nat.le_of_ble_eq_true rfl) (hI.fit (Nat.le_of_ble_eq_true rfl) (Nat.le_of_ble_eq_true rfl) (Nat.le_of_ble_eq_true rfl)) dX7_generateCode_29 (fun x29 hx29 => ?_)
        refine g_if_eq (tgt := 39) hC dX7_generateCode_32 (by decide) ⟨by omega, by omega⟩ (fun h32 => ?_) (fun h32 => ?_)
        · refine g_bipush hC dX7_generateCode_39 (by decide +kernel) ?_
          refine g_iret hC hI rfl dX7_generateCode_41 (Nat.le_of_ble_eq_true rfl) (Nat.le_of_ble_eq_true rfl) ⟨rfl, rfl, rfl, _, rfl, ?_⟩
          rw [e2]
          show _ = ite _ _ _
          first | rw [if_neg (by omega), if_pos (by omega)] | rw [if_neg (by omega), if_neg (by omega)]
        · refine g_iconst hC dX7_generateCode_35 ?_
          refine g_goto (tgt := 41) hC dX7_generateCode_36 (by decide) ?_
          refine g_iret hC hI rfl dX7_generateCode_41 (Nat.le_of_ble_eq_true rfl) (Nat.le_of_ble_eq_true rfl) ⟨rfl, rfl, rfl, _, rfl, ?_⟩
          rw [e2]
          show _ = ite _ _ _
          first | rw [if_neg (by omega), if_pos (by omega)] | rw [if_neg (by omega), if_neg (by omega)]
      · refine g_bipush hC dX7_generateCode_24 (by decide +kernel) ?_
        refine g_iret hC hI rfl dX7_generateCode_26 (Nat.le_of_ble_eq_true rfl) (Nat.le_of_ble_eq_true rfl) ⟨rfl, rfl, rfl, _, rfl, ?_⟩
        rw [e2]
        show _ = ite _ _ _
        rw [if_pos (by omega)]
set_option maxHeartbeats 4000000 in
set_option maxRecDepth 100000 in
theorem kX7_reproCode (l : Launch) (D : va_G) (ac : Nat → ClassId) {sh : Nat → Nat × Nat} {rf : Nat → Nat → Option Nat} {mem : Nat → Nat → Int} (a a0 : Nat) (sa ra : Nat → Nat) (ss : List (Option SetT)) (f t : Int) (hS : RSs sh rf mem a a0 sa ra ss) (hp : inR f) (hq : inR t) : gMet l D ac mX7_reproCode 1 [.ref a, .int (iI f), .int (iI t)] 0 0 sh rf mem (pP sh rf mem (fun r => r = (match setAt ss f, setAt ss t with | some x, some y => if f = t then 8 else if 60 < x.2.2.2 + y.2.2.2 then 12 else if x.2.2.2 = 0 then 4 else 0 | _, _ => -2))) := by
  refine gMet.mk (by decide) (by intro v hv; simp at hv; (try rcases hv with rfl | rfl | rfl) <;> rfl) (Nat.le_of_ble_eq_true rfl) (fun X hC hI => ?_)
  show gG X sh rf mem 0 0 0 [some (.ref a), some (.int (iI f)), some (.int (iI t)), none, none] []
  have hS9 := hS
  obtain ⟨ho, hr0, hs0, hc, hl, hv, hj⟩ := hS
  have hp9 := hp
  obtain ⟨hp1, hp2⟩ := hp
  have hq9 := hq
  obtain ⟨hq1, hq2⟩ := hq
  refine g_aload_n hC dX7_reproCode_0 rfl ?_
  refine g_iload_n hC dX7_reproCode_1 rfl ?_
  refine g_VR hC (kX7_at (gl X) (gD X) (gac X) a a0 sa ra ss f hS9 hp9) cvX7_at lkX7_25 (by assumption) rfl rfl (Nat.le_of_ble_eq_true rfl) (hI.fit (Nat.le_of_ble_eq_true rfl) (Nat.le_of_ble_eq_true rfl) (Nat.le_of_ble_eq_true rfl)) dX7_reproCode_2 (fun x2 hx2 => ?_)
  rcases e2 : setAt ss (f) with _ | y2
  · rw [e2] at hx2
    subst hx2
    refine g_astore_nN hC 3 rfl dX7_reproCode_5 (Nat.le_of_ble_eq_true rfl) ?_
    dsimp only [List.set]
    refine g_aload_n hC dX7_reproCode_6 rfl ?_
    refine g_iload_n hC dX7_reproCode_7 rfl ?_
    refine g_VR hC (kX7_at (gl X) (gD X) (gac X) a a0 sa ra ss t hS9 hq9) cvX7_at lkX7_25 (by assumption) rfl rfl (Nat.le_of_ble_eq_true rfl) (hI.fit (Nat.le_of_ble_eq_true rfl) (Nat.le_of_ble_eq_true rfl) (Nat.le_of_ble_eq_true rfl)) dX7_reproCode_8 (fun x8 hx8 => ?_)
    rcases e8 : setAt ss (t) with _ | y8
    · rw [e8] at hx8
      subst hx8
      refine g_astoreN hC dX7_reproCode_11 (Nat.le_of_ble_eq_true rfl) ?_
      dsimp only [List.set]
      refine g_aload_nN hC dX7_reproCode_13 rfl ?_
      refine g_ifnullN (tgt := 22) hC dX7_reproCode_14 (by decide) ?_
      refine g_bipush hC dX7_reproCode_22 (by decide +kernel) ?_
      refine g_iret hC hI rfl dX7_reproCode_24 (Nat.le_of_ble_eq_true rfl) (Nat.le_of_ble_eq_true rfl) ⟨rfl, rfl, rfl, _, rfl, ?_⟩
      rw [e2]
      try rw [e8]
    · rw [e8] at hx8
      subst hx8
      obtain ⟨O8, V8⟩ := RSs.at hS9 e8
      have o8 := O8.1
      have w8 := V8
      refine g_astore hC dX7_reproCode_11 (Nat.le_of_ble_eq_true rfl) ?_
      dsimp only [List.set]
      refine g_aload_nN hC dX7_reproCode_13 rfl ?_
      refine g_ifnullN (tgt := 22) hC dX7_reproCode_14 (by decide) ?_
      refine g_bipush hC dX7_reproCode_22 (by decide +kernel) ?_
      refine g_iret hC hI rfl dX7_reproCode_24 (Nat.le_of_ble_eq_true rfl) (Nat.le_of_ble_eq_true rfl) ⟨rfl, rfl, rfl, _, rfl, ?_⟩
      rw [e2]
      try rw [e8]
  · rw [e2] at hx2
    subst hx2
    obtain ⟨O2, V2⟩ := RSs.at hS9 e2
    have o2 := O2.1
    have w2 := V2
    refine g_astore_n hC 3 rfl dX7_reproCode_5 (Nat.le_of_ble_eq_true rfl) ?_
    dsimp only [List.set]
    refine g_aload_n hC dX7_reproCode_6 rfl ?_
    refine g_iload_n hC dX7_reproCode_7 rfl ?_
    refine g_VR hC (kX7_at (gl X) (gD X) (gac X) a a0 sa ra ss t hS9 hq9) cvX7_at lkX7_25 (by assumption) rfl rfl (Nat.le_of_ble_eq_true rfl) (hI.fit (Nat.le_of_ble_eq_true rfl) (Nat.le_of_ble_eq_true rfl) (Nat.le_of_ble_eq_true rfl)) dX7_reproCode_8 (fun x8 hx8 => ?_)
    rcases e8 : setAt ss (t) with _ | y8
    · rw [e8] at hx8
      subst hx8
      refine g_astoreN hC dX7_reproCode_11 (Nat.le_of_ble_eq_true rfl) ?_
      dsimp only [List.set]
      refine g_aload_n hC dX7_reproCode_13 rfl ?_
      refine g_ifnullR hC dX7_reproCode_14 ?_
      refine g_aloadN hC dX7_reproCode_17 rfl ?_
      refine g_ifnonnullN hC dX7_reproCode_19 ?_
      refine g_bipush hC dX7_reproCode_22 (by decide +kernel) ?_
      refine g_iret hC hI rfl dX7_reproCode_24 (Nat.le_of_ble_eq_true rfl) (Nat.le_of_ble_eq_true rfl) ⟨rfl, rfl, rfl, _, rfl, ?_⟩
      rw [e2]
      try rw [e8]
    · rw [e8] at hx8
      subst hx8
      obtain ⟨O8, V8⟩ := RSs.at hS9 e8
      have o8 := O8.1
      have w8 := V8
      refine g_astore hC dX7_reproCode_11 (Nat.le_of_ble_eq_true rfl) ?_
      dsimp only [List.set]
      refine g_aload_n hC dX7_reproCode_13 rfl ?_
      refine g_ifnullR hC dX7_reproCode_14 ?_
      refine g_aload hC dX7_reproCode_17 rfl ?_
      refine g_ifnonnullR (tgt := 25) hC dX7_reproCode_19 (by decide) ?_
      refine g_iload_n hC dX7_reproCode_25 rfl ?_
      refine g_iload_n hC dX7_reproCode_26 rfl ?_
      refine g_icmp_ne (tgt := 33) hC dX7_reproCode_27 (by decide) ⟨by omega, by omega⟩ ⟨by omega, by omega⟩ (fun h27 => ?_) (fun h27 => ?_)
      · refine g_aload hC dX7_reproCode_33 rfl ?_
        refine g_aload_n hC dX7_reproCode_35 rfl ?_
        refine g_VP hC (kX6_counting (gl X) (gD X) (gac X) _ _ y2.1 y2.2.1 y2.2.2.1 y2.2.2.2 O2 V2) cvX6_counting lkX7_46 (by assumption) rfl rfl (Nat.le_of_ble_eq_true rfl) (hI.fit (Nat.le_of_ble_eq_true rfl) (Nat.le_of_ble_eq_true rfl) (Nat.le_of_ble_eq_true rfl)) dX7_reproCode_36 (fun x36 hx36 => ?_)
        subst hx36
        have b2 := V2.2.2.2.2.1
        have b3 := V2.2.2.2.2.2.1
        refine g_VP hC (kX6_hasRoomFor (gl X) (gD X) (gac X) _ _ y8.1 y8.2.1 y8.2.2.1 y8.2.2.2 _ O8 V8 ⟨by omega, by omega⟩) cvX6_hasRoomFor lkX7_50 (by assumption) rfl rfl (Nat.le_of_ble_eq_true rfl) (hI.fit (Nat.le_of_ble_eq_true rfl) (Nat.le_of_ble_eq_true rfl) (Nat.le_of_ble_eq_true rfl)) dX7_reproCode_39 (fun x39 hx39 => ?_)
        refine g_if_ne (tgt := 48) hC dX7_reproCode_42 (by decide) ⟨by omega, by omega⟩ (fun h42 => ?_) (fun h42 => ?_)
        · refine g_aload_n hC dX7_reproCode_48 rfl ?_
          refine g_VP hC (kX6_counting (gl X) (gD X) (gac X) _ _ y2.1 y2.2.1 y2.2.2.1 y2.2.2.2 O2 V2) cvX6_counting lkX7_46 (by assumption) rfl rfl (Nat.le_of_ble_eq_true rfl) (hI.fit (Nat.le_of_ble_eq_true rfl) (Nat.le_of_ble_eq_true rfl) (Nat.le_of_ble_eq_true rfl)) dX7_reproCode_49 (fun x49 hx49 => ?_)
          subst hx49
          refine g_if_ne (tgt := 59) hC dX7_reproCode_52 (by decide) ⟨by omega, by omega⟩ (fun h52 => ?_) (fun h52 => ?_)
          · refine g_iconst hC dX7_reproCode_59 ?_
            refine g_iret hC hI rfl dX7_reproCode_60 (Nat.le_of_ble_eq_true rfl) (Nat.le_of_ble_eq_true rfl) ⟨rfl, rfl, rfl, _, rfl, ?_⟩
            rw [e2, e8]
            show _ = ite _ _ _
            first | rw [if_neg (by omega), if_neg (by omega), if_pos (by omega)] | rw [if_neg (by omega), if_neg (by omega), if_neg (by omega)]
          · refine g_iconst hC dX7_reproCode_55 ?_
            refine g_goto (tgt := 60) hC dX7_reproCode_56 (by decide) ?_
            refine g_iret hC hI rfl dX7_reproCode_60 (Nat.le_of_ble_eq_true rfl) (Nat.le_of_ble_eq_true rfl) ⟨rfl, rfl, rfl, _, rfl, ?_⟩
            rw [e2, e8]
            show _ = ite _ _ _
            first | rw [if_neg (by omega), if_neg (by omega), if_pos (by omega)] | rw [if_neg (by omega), if_neg (by omega), if_neg (by omega)]
        · refine g_bipush hC dX7_reproCode_45 (by decide +kernel) ?_
          refine g_iret hC hI rfl dX7_reproCode_47 (Nat.le_of_ble_eq_true rfl) (Nat.le_of_ble_eq_true rfl) ⟨rfl, rfl, rfl, _, rfl, ?_⟩
          rw [e2, e8]
          show _ = ite _ _ _
          rw [if_neg (by omega), if_pos (by omega)]
      · refine g_bipush hC dX7_reproCode_30 (by decide +kernel) ?_
        refine g_iret hC hI rfl dX7_reproCode_32 (Nat.le_of_ble_eq_true rfl) (Nat.le_of_ble_eq_true rfl) ⟨rfl, rfl, rfl, _, rfl, ?_⟩
        rw [e2, e8]
        show _ = ite _ _ _
        rw [if_pos (by omega)]
