/-! RecordSets: sets made, dropped, taken over -/
def canT (ss : List (Option SetT)) (n : Int) : Prop := match setAt ss (numS ss n) with
  | none => ss.length < 20
  | some x => x.2.1 = 0
theorem getD_lt {ss : List (Option SetT)} {i : Nat} (h : ss.getD i none ≠ none) : i < ss.length := by
  apply Classical.byContradiction
  intro q
  apply h
  rw [List.getD_eq_getElem?_getD, List.getElem?_eq_none (by omega)]
  rfl
theorem getD_appS {ss : List (Option SetT)} {v : Option SetT} {i : Nat} : (ss ++ [v]).getD i none = if i = ss.length then v else ss.getD i none := by
  rw [List.getD_eq_getElem?_getD, List.getD_eq_getElem?_getD]
  by_cases h : i < ss.length
  · rw [List.getElem?_append_left h, if_neg (by omega)]
  · rw [List.getElem?_append_right (by omega)]
    by_cases h2 : i = ss.length
    · subst h2
      simp
    · rw [if_neg h2, List.getElem?_eq_none (by simp; omega), List.getElem?_eq_none (by omega)]
theorem getD_setS {ss : List (Option SetT)} {v : Option SetT} {k i : Nat} (h : k < ss.length) : (ss.set k v).getD i none = if i = k then v else ss.getD i none := by
  rw [List.getD_eq_getElem?_getD, List.getD_eq_getElem?_getD, List.getElem?_set]
  by_cases hi : k = i
  · subst hi
    simp [h]
  · rw [if_neg hi, if_neg (fun q => hi q.symm)]
/-- what a change of the sets leaves alone -/
def RSf (sh : Nat → Nat × Nat) (rf : Nat → Nat → Option Nat) (mem : Nat → Nat → Int) (sh1 : Nat → Nat × Nat) (rf1 : Nat → Nat → Option Nat) (mem1 : Nat → Nat → Int) (ra : Nat → Nat) (ss : List (Option SetT)) : Prop :=
  (∀ b, (sh b).1 ≠ 0 → sh1 b = sh b) ∧ ∀ b, (sh b).1 ≠ 0 → sh b ≠ (7, 0) → sh b ≠ (16, 20) → sh b ≠ (6, 0) → (∀ i, ss.getD i none ≠ none → b ≠ ra i) → rf1 b = rf b ∧ mem1 b = mem b
theorem RSf.rf {sh : Nat → Nat × Nat} {rf : Nat → Nat → Option Nat} {mem : Nat → Nat → Int} {ra : Nat → Nat} {ss : List (Option SetT)} : RSf sh rf mem sh rf mem ra ss := ⟨fun _ _ => rfl, fun _ _ _ _ _ _ => ⟨rfl, rfl⟩⟩
/-- one set changes -/
theorem RSs_set {sh : Nat → Nat × Nat} {rf : Nat → Nat → Option Nat} {mem mem1 : Nat → Nat → Int} {a a0 : Nat} {sa ra : Nat → Nat} {ss : List (Option SetT)} (h : RSs sh rf mem a a0 sa ra ss) {k : Nat} {x y : SetT} (hx : ss.getD k none = some x) (hy : RsV mem1 (sa k) (ra k) y.1 y.2.1 y.2.2.1 y.2.2.2) (hf : Fr2 mem mem1 (sa k) (ra k)) : RSs sh rf mem1 a a0 sa ra (ss.set k (some y)) ∧ RSf sh rf mem sh rf mem1 ra ss := by
  obtain ⟨ho, hr0, hs0, hc, hl, hv, hj⟩ := h
  have hk : k < ss.length := getD_lt (by rw [hx]; simp)
  obtain ⟨q1, q2, q3⟩ := (hv k hk).2 x hx
  have n1 : a ≠ sa k := by rintro e; rw [e, q2.1] at ho; simp at ho
  have n2 : a ≠ ra k := by rintro e; rw [e, q2.2.2] at ho; simp at ho
  refine ⟨⟨ho, hr0, hs0, by rw [List.length_set, hf a n1 n2]; exact hc, by rw [List.length_set]; exact hl, ?_, ?_⟩, fun _ _ => rfl, fun b _ h1 h2 h3 h4 => ⟨rfl, hf b (fun e => h3 (by rw [e]; exact q2.1)) (h4 k (by rw [hx]; simp))⟩⟩
  · rw [List.length_set]
    intro i hi
    rw [getD_setS hk]
    by_cases e : i = k
    · subst e
      rw [if_pos rfl]
      refine ⟨fun z => by simp at z, fun z hz => ?_⟩
      cases hz
      exact ⟨q1, q2, hy⟩
    · rw [if_neg e]
      refine ⟨(hv i hi).1, fun z hz => ?_⟩
      obtain ⟨p1, p2, p3⟩ := (hv i hi).2 z hz
      obtain ⟨d1, d2⟩ := hj i k hi hk e (by rw [hz]; simp) (by rw [hx]; simp)
      have m1 : sa i ≠ ra k := by rintro e9; have := p2.1; rw [e9, q2.2.2] at this; simp at this
      have m2 : ra i ≠ sa k := by rintro e9; have := p2.2.2; rw [e9, q2.1] at this; simp at this
      exact ⟨p1, p2, p3.fr ⟨hf _ d1 m1, hf _ m2 d2⟩⟩
  · rw [List.length_set]
    intro i j hi hj2 hne
    rw [getD_setS hk, getD_setS hk]
    intro h1 h2
    refine hj i j hi hj2 hne ?_ ?_
    · by_cases e : i = k
      · rw [e, hx]; simp
      · rw [if_neg e] at h1; exact h1
    · by_cases e : j = k
      · rw [e, hx]; simp
      · rw [if_neg e] at h2; exact h2
theorem RSs_drop {sh : Nat → Nat × Nat} {rf : Nat → Nat → Option Nat} {mem : Nat → Nat → Int} {a a0 : Nat} {sa ra : Nat → Nat} {ss : List (Option SetT)} (h : RSs sh rf mem a a0 sa ra ss) {k : Nat} (hk : k < ss.length) : RSs sh (gur rf a0 k none) mem a a0 sa ra (ss.set k none) ∧ RSf sh rf mem sh (gur rf a0 k none) mem ra ss := by
  obtain ⟨ho, hr0, hs0, hc, hl, hv, hj⟩ := h
  have n0 : a ≠ a0 := by rintro e; rw [← e, ho] at hs0; simp at hs0
  refine ⟨⟨ho, by rw [gur_a _ _ _ _ n0]; exact hr0, hs0, by rw [List.length_set]; exact hc, by rw [List.length_set]; exact hl, ?_, ?_⟩, fun _ _ => rfl, fun b _ h1 h2 h3 h4 => ⟨by funext j; rw [gur_a _ _ _ _ (fun e => h2 (by rw [e]; exact hs0))], rfl⟩⟩
  · rw [List.length_set]
    intro i hi
    rw [getD_setS hk]
    by_cases e : i = k
    · subst e
      rw [if_pos rfl, gur_s]
      exact ⟨fun _ => rfl, fun z hz => by simp at hz⟩
    · rw [if_neg e, gur_k _ _ _ _ e]
      refine ⟨(hv i hi).1, fun z hz => ?_⟩
      obtain ⟨p1, ⟨p2, p3, p4⟩, p5⟩ := (hv i hi).2 z hz
      have n1 : sa i ≠ a0 := by rintro e9; rw [e9, hs0] at p2; simp at p2
      exact ⟨p1, ⟨p2, by rw [gur_a _ _ _ _ n1]; exact p3, p4⟩, p5⟩
  · rw [List.length_set]
    intro i j hi hj2 hne
    rw [getD_setS hk, getD_setS hk]
    intro h1 h2
    refine hj i j hi hj2 hne ?_ ?_
    · by_cases e : i = k
      · rw [if_pos e] at h1; exact absurd rfl h1
      · rw [if_neg e] at h1; exact h1
    · by_cases e : j = k
      · rw [if_pos e] at h2; exact absurd rfl h2
      · rw [if_neg e] at h2; exact h2
theorem RSs_add {sh sh1 : Nat → Nat × Nat} {rf rf1 : Nat → Nat → Option Nat} {mem mem1 : Nat → Nat → Int} {a a0 s r : Nat} {sa ra : Nat → Nat} {ss : List (Option SetT)} {y : SetT} (h : RSs sh rf mem a a0 sa ra ss) (hl2 : ss.length < 20) (fs : (sh s).1 = 0) (fr : (sh r).1 = 0) (hO : RsO sh1 rf1 s r) (hV : RsV mem1 s r y.1 y.2.1 y.2.2.1 y.2.2.2) (g1 : ∀ b, (sh b).1 ≠ 0 → sh1 b = sh b) (g2 : ∀ b, (sh b).1 ≠ 0 → b ≠ a0 → rf1 b = rf b) (g3 : ∀ b, (sh b).1 ≠ 0 → b ≠ a → mem1 b = mem b) (g4 : ∀ i, rf1 a0 i = if i = ss.length then some s else rf a0 i) (g5 : mem1 a 1 = ss.length + 1) :
    RSs sh1 rf1 mem1 a a0 (va_up sa ss.length s) (va_up ra ss.length r) (ss ++ [some y]) ∧ RSf sh rf mem sh1 rf1 mem1 ra ss := by
  obtain ⟨ho, hr0, hs0, hc, hl, hv, hj⟩ := h
  have ha : (sh a).1 ≠ 0 := by rw [ho]; simp
  have ha0 : (sh a0).1 ≠ 0 := by rw [hs0]; simp
  have n0 : a ≠ a0 := by rintro e; rw [← e, ho] at hs0; simp at hs0
  refine ⟨⟨by rw [g1 a ha]; exact ho, by rw [g2 a ha n0]; exact hr0, by rw [g1 a0 ha0]; exact hs0, by rw [g5]; simp, by simp; omega, ?_, ?_⟩, g1, fun b hb h1 h2 h3 h4 => ⟨g2 b hb (fun e => h2 (by rw [e]; exact hs0)), g3 b hb (fun e => h1 (by rw [e]; exact ho))⟩⟩
  · intro i hi
    rw [getD_appS, g4]
    by_cases e : i = ss.length
    · subst e
      rw [if_pos rfl, if_pos rfl, va_up_self, va_up_self]
      refine ⟨fun z => by simp at z, fun z hz => ?_⟩
      cases hz
      exact ⟨rfl, hO, hV⟩
    · have hi2 : i < ss.length := by simp at hi; omega
      rw [if_neg e, if_neg e, va_up_ne _ _ e, va_up_ne _ _ e]
      refine ⟨(hv i hi2).1, fun z hz => ?_⟩
      obtain ⟨p1, ⟨p2, p3, p4⟩, p5⟩ := (hv i hi2).2 z hz
      have b1 : (sh (sa i)).1 ≠ 0 := by rw [p2]; simp
      have b2 : (sh (ra i)).1 ≠ 0 := by rw [p4]; simp
      have n1 : sa i ≠ a0 := by rintro e9; rw [e9, hs0] at p2; simp at p2
      have n2 : sa i ≠ a := by rintro e9; rw [e9, ho] at p2; simp at p2
      have n3 : ra i ≠ a := by rintro e9; rw [e9, ho] at p4; simp at p4
      exact ⟨p1, ⟨by rw [g1 _ b1]; exact p2, by rw [g2 _ b1 n1]; exact p3, by rw [g1 _ b2]; exact p4⟩, p5.fr ⟨g3 _ b1 n2, g3 _ b2 n3⟩⟩
  · intro i j hi hj2 hne
    rw [getD_appS, getD_appS]
    intro h1 h2
    have key : ∀ i, i < ss.length → ss.getD i none ≠ none → sa i ≠ s ∧ ra i ≠ r := by
      intro i hi2 hi3
      obtain ⟨z, hz⟩ := Option.ne_none_iff_exists'.mp hi3
      obtain ⟨p1, ⟨p2, p3, p4⟩, p5⟩ := (hv i hi2).2 z hz
      refine ⟨?_, ?_⟩
      · rintro e; rw [← e, p2] at fs; simp at fs
      · rintro e; rw [← e, p4] at fr; simp at fr
    by_cases e : i = ss.length
    · subst e
      have e2 : j ≠ ss.length := fun q => hne q.symm
      rw [if_neg e2] at h2
      rw [va_up_self, va_up_self, va_up_ne _ _ e2, va_up_ne _ _ e2]
      obtain ⟨k1, k2⟩ := key j (getD_lt h2) h2
      exact ⟨k1.symm, k2.symm⟩
    · rw [if_neg e] at h1
      rw [va_up_ne _ _ e, va_up_ne _ _ e]
      by_cases e2 : j = ss.length
      · subst e2
        rw [va_up_self, va_up_self]
        exact key i (getD_lt h1) h1
      · rw [if_neg e2] at h2
        rw [va_up_ne _ _ e2, va_up_ne _ _ e2]
        exact hj i j (getD_lt h1) (getD_lt h2) hne h1 h2
set_option maxHeartbeats 4000000 in
set_option maxRecDepth 100000 in
theorem kX7_canTakeOver (l : Launch) (D : va_G) (ac : Nat → ClassId) {sh : Nat → Nat × Nat} {rf : Nat → Nat → Option Nat} {mem : Nat → Nat → Int} (a a0 : Nat) (sa ra : Nat → Nat) (ss : List (Option SetT)) (n : Int) (hS : RSs sh rf mem a a0 sa ra ss) (hp : inR n) : gMet l D ac mX7_canTakeOver 3 [.ref a, .int (iI n)] 0 0 sh rf mem (pP sh rf mem (fun r => (r = 1 ∧ canT ss n) ∨ (r = 0 ∧ ¬ canT ss n))) := by
  refine gMet.mk (by decide) (by intro v hv; simp at hv; (try rcases hv with rfl | rfl) <;> rfl) (Nat.le_of_ble_eq_true rfl) (fun X hC hI => ?_)
  show gG X sh rf mem 0 0 0 [some (.ref a), some (.int (iI n)), none] []
  have hS9 := hS
  obtain ⟨ho, hr0, hs0, hc, hl, hv, hj⟩ := hS
  have hp9 := hp
  obtain ⟨hp1, hp2⟩ := hp
  refine g_aload_n hC dX7_canTakeOver_0 rfl ?_
  refine g_iload_n hC dX7_canTakeOver_1 rfl ?_
  refine g_VR hC (kX7_withName (gl X) (gD X) (gac X) a a0 sa ra ss n hS9 hp9) cvX7_withName lkX7_43 (by assumption) rfl rfl (Nat.le_of_ble_eq_true rfl) (hI.fit (Nat.le_of_ble_eq_true rfl) (Nat.le_of_ble_eq_true rfl) (Nat.le_of_ble_eq_true rfl)) dX7_canTakeOver_2 (fun x2 hx2 => ?_)
  rcases e2 : setAt ss (numS ss n) with _ | y2
  · rw [e2] at hx2
    subst hx2
    refine g_astore_nN hC 2 rfl dX7_canTakeOver_5 (Nat.le_of_ble_eq_true rfl) ?_
    dsimp only [List.set]
    refine g_aload_nN hC dX7_canTakeOver_6 rfl ?_
    refine g_ifnonnullN hC dX7_canTakeOver_7 ?_
    refine g_aload_n hC dX7_canTakeOver_10 rfl ?_
    refine g_VP hC (kX7_hasRoom (gl X) (gD X) (gac X) a a0 sa ra ss hS9) cvX7_hasRoom lkX7_29 (by assumption) rfl rfl (Nat.le_of_ble_eq_true rfl) (hI.fit (Nat.le_of_ble_eq_true rfl) (Nat.le_of_ble_eq_true rfl) (Nat.le_of_ble_eq_true rfl)) dX7_canTakeOver_11 (fun x11 hx11 => ?_)
    refine g_goto (tgt := 29) hC dX7_canTakeOver_14 (by decide) ?_
    refine g_zret hC hI rfl (by first | decide +kernel | (rcases hx11 with q | q <;> rw [q.1] <;> decide +kernel)) dX7_canTakeOver_29 (Nat.le_of_ble_eq_true rfl) (Nat.le_of_ble_eq_true rfl) ⟨rfl, rfl, rfl, _, rfl, ?_⟩
    unfold canT
    rw [e2]
    first
    | (show _ ∧ _ < _ ∨ _ ∧ ¬ _ < _; omega)
    | (show _ ∧ _ = _ ∨ _ ∧ ¬ _ = _; omega)
  · rw [e2] at hx2
    subst hx2
    obtain ⟨O2, V2⟩ := RSs.at hS9 e2
    rw [show ((numS ss n : Int) - 1).toNat = numS ss n - 1 by omega] at O2 V2
    have o2 := O2.1
    refine g_astore_n hC 2 rfl dX7_canTakeOver_5 (Nat.le_of_ble_eq_true rfl) ?_
    dsimp only [List.set]
    refine g_aload_n hC dX7_canTakeOver_6 rfl ?_
    refine g_ifnonnullR (tgt := 17) hC dX7_canTakeOver_7 (by decide) ?_
    refine g_aload_n hC dX7_canTakeOver_17 rfl ?_
    refine g_VP hC (kX6_isGuarded (gl X) (gD X) (gac X) _ _ y2.1 y2.2.1 y2.2.2.1 y2.2.2.2 O2 V2) cvX6_isGuarded lkX7_36 (by assumption) rfl rfl (Nat.le_of_ble_eq_true rfl) (hI.fit (Nat.le_of_ble_eq_true rfl) (Nat.le_of_ble_eq_true rfl) (Nat.le_of_ble_eq_true rfl)) dX7_canTakeOver_18 (fun x18 hx18 => ?_)
    subst hx18
    have g9 := V2.2.2.2.2.2.2.2.2.1
    refine g_if_ne (tgt := 28) hC dX7_canTakeOver_21 (by decide) ⟨by omega, by omega⟩ (fun h21 => ?_) (fun h21 => ?_)
    · refine g_iconst hC dX7_canTakeOver_28 ?_
      refine g_zret hC hI rfl (by first | decide +kernel | (rcases hx11 with q | q <;> rw [q.1] <;> decide +kernel)) dX7_canTakeOver_29 (Nat.le_of_ble_eq_true rfl) (Nat.le_of_ble_eq_true rfl) ⟨rfl, rfl, rfl, _, rfl, ?_⟩
      unfold canT
      rw [e2]
      first
      | (show _ ∧ _ < _ ∨ _ ∧ ¬ _ < _; omega)
      | (show _ ∧ _ = _ ∨ _ ∧ ¬ _ = _; omega)
    · refine g_iconst hC dX7_canTakeOver_24 ?_
      refine g_goto (tgt := 29) hC dX7_canTakeOver_25 (by decide) ?_
      refine g_zret hC hI rfl (by first | decide +kernel | (rcases hx11 with q | q <;> rw [q.1] <;> decide +kernel)) dX7_canTakeOver_29 (Nat.le_of_ble_eq_true rfl) (Nat.le_of_ble_eq_true rfl) ⟨rfl, rfl, rfl, _, rfl, ?_⟩
      unfold canT
      rw [e2]
      first
      | (show _ ∧ _ < _ ∨ _ ∧ ¬ _ < _; omega)
      | (show _ ∧ _ = _ ∨ _ ∧ ¬ _ = _; omega)
set_option maxHeartbeats 4000000 in
set_option maxRecDepth 100000 in
theorem kX7_alterCode (l : Launch) (D : va_G) (ac : Nat → ClassId) {sh : Nat → Nat × Nat} {rf : Nat → Nat → Option Nat} {mem : Nat → Nat → Int} (a a0 : Nat) (sa ra : Nat → Nat) (ss : List (Option SetT)) (n m : Int) (hS : RSs sh rf mem a a0 sa ra ss) (hp : inR n) (hq : inR m) : gMet l D ac mX7_alterCode 3 [.ref a, .int (iI n), .int (iI m)] 0 0 sh rf mem (pP sh rf mem (fun r => r = (match setAt ss n with | none => -2 | some _ => if ¬ (0 ≤ m ∧ m < 100) then -4 else if numS ss m = 0 then 0 else if (numS ss m : Int) = n then 4 else 8))) := by
  refine gMet.mk (by decide) (by intro v hv; simp at hv; (try rcases hv with rfl | rfl | rfl) <;> rfl) (Nat.le_of_ble_eq_true rfl) (fun X hC hI => ?_)
  show gG X sh rf mem 0 0 0 [some (.ref a), some (.int (iI n)), some (.int (iI m)), none, none] []
  have hS9 := hS
  obtain ⟨ho, hr0, hs0, hc, hl, hv, hj⟩ := hS
  have hp9 := hp
  obtain ⟨hp1, hp2⟩ := hp
  have hq9 := hq
  obtain ⟨hq1, hq2⟩ := hq
  refine g_aload_n hC dX7_alterCode_0 rfl ?_
  refine g_iload_n hC dX7_alterCode_1 rfl ?_
  refine g_VR hC (kX7_at (gl X) (gD X) (gac X) a a0 sa ra ss n hS9 hp9) cvX7_at lkX7_25 (by assumption) rfl rfl (Nat.le_of_ble_eq_true rfl) (hI.fit (Nat.le_of_ble_eq_true rfl) (Nat.le_of_ble_eq_true rfl) (Nat.le_of_ble_eq_true rfl)) dX7_alterCode_2 (fun x2 hx2 => ?_)
  rcases e2 : setAt ss (n) with _ | y2
  · rw [e2] at hx2
    subst hx2
    refine g_astore_nN hC 3 rfl dX7_alterCode_5 (Nat.le_of_ble_eq_true rfl) ?_
    dsimp only [List.set]
    refine g_aload_nN hC dX7_alterCode_6 rfl ?_
    refine g_ifnonnullN hC dX7_alterCode_7 ?_
    refine g_bipush hC dX7_alterCode_10 (by decide +kernel) ?_
    refine g_iret hC hI rfl dX7_alterCode_12 (Nat.le_of_ble_eq_true rfl) (Nat.le_of_ble_eq_true rfl) ⟨rfl, rfl, rfl, _, rfl, ?_⟩
    rw [e2]
  · rw [e2] at hx2
    subst hx2
    obtain ⟨O2, V2⟩ := RSs.at hS9 e2
    have o2 := O2.1
    have w2 := V2
    refine g_astore_n hC 3 rfl dX7_alterCode_5 (Nat.le_of_ble_eq_true rfl) ?_
    dsimp only [List.set]
    refine g_aload_n hC dX7_alterCode_6 rfl ?_
    refine g_ifnonnullR (tgt := 13) hC dX7_alterCode_7 (by decide) ?_
    refine g_iload_n hC dX7_alterCode_13 rfl ?_
    refine g_SPn hC (kX9_isName (gl X) (gD X) (gac X) m hq9) csX9_isName lkX7_39 rfl rfl (Nat.le_of_ble_eq_true rfl) (hI.fit (Nat.le_of_ble_eq_true rfl) (Nat.le_of_ble_eq_true rfl) (Nat.le_of_ble_eq_true rfl)) dX7_alterCode_14 (fun x14 hx14 => ?_)
    refine g_if_ne (tgt := 23) hC dX7_alterCode_17 (by decide) ⟨by omega, by omega⟩ (fun h17 => ?_) (fun h17 => ?_)
    · refine g_aload_n hC dX7_alterCode_23 rfl ?_
      refine g_iload_n hC dX7_alterCode_24 rfl ?_
      refine g_VR hC (kX7_withName (gl X) (gD X) (gac X) a a0 sa ra ss m hS9 hq9) cvX7_withName lkX7_43 (by assumption) rfl rfl (Nat.le_of_ble_eq_true rfl) (hI.fit (Nat.le_of_ble_eq_true rfl) (Nat.le_of_ble_eq_true rfl) (Nat.le_of_ble_eq_true rfl)) dX7_alterCode_25 (fun x25 hx25 => ?_)
      rcases e25 : setAt ss (numS ss m) with _ | y25
      · rw [e25] at hx25
        subst hx25
        have z25 : numS ss m = 0 := by apply Classical.byContradiction; intro q; obtain ⟨x, h1, h2⟩ := setAt_num q; rw [e25] at h1; simp at h1
        refine g_astoreN hC dX7_alterCode_28 (Nat.le_of_ble_eq_true rfl) ?_
        dsimp only [List.set]
        refine g_aloadN hC dX7_alterCode_30 rfl ?_
        refine g_ifnonnullN hC dX7_alterCode_32 ?_
        refine g_iconst hC dX7_alterCode_35 ?_
        refine g_iret hC hI rfl dX7_alterCode_36 (Nat.le_of_ble_eq_true rfl) (Nat.le_of_ble_eq_true rfl) ⟨rfl, rfl, rfl, _, rfl, ?_⟩
        rw [e2]
        show _ = ite _ _ _
        rw [if_neg (by omega), if_pos z25]
      · rw [e25] at hx25
        subst hx25
        have z25 : numS ss m ≠ 0 := by rintro q; rw [q, setAt_0 (by decide)] at e25; simp at e25
        refine g_astore hC dX7_alterCode_28 (Nat.le_of_ble_eq_true rfl) ?_
        dsimp only [List.set]
        refine g_aload hC dX7_alterCode_30 rfl ?_
        refine g_ifnonnullR (tgt := 37) hC dX7_alterCode_32 (by decide) ?_
        refine g_aload hC dX7_alterCode_37 rfl ?_
        refine g_aload_n hC dX7_alterCode_39 rfl ?_
        refine g_acmp_ne (tgt := 47) hC dX7_alterCode_40 (by decide) (fun h40 => ?_) (fun h40 => ?_)
        · refine g_bipush hC dX7_alterCode_47 (by decide +kernel) ?_
          refine g_iret hC hI rfl dX7_alterCode_49 (Nat.le_of_ble_eq_true rfl) (Nat.le_of_ble_eq_true rfl) ⟨rfl, rfl, rfl, _, rfl, ?_⟩
          rw [e2]
          show _ = ite _ _ _
          rw [if_neg (by omega), if_neg z25]
          obtain ⟨f1, f2, f3⟩ := setAt_some e2
          obtain ⟨k1, k2, k3⟩ := setAt_some e25
          first
          | (rw [if_pos]
             apply Classical.byContradiction
             intro q
             rw [show ((numS ss m : Int) - 1).toNat = numS ss m - 1 by omega] at k3
             exact (hj (numS ss m - 1) (n - 1).toNat (by omega) (by omega) (by omega) (by rw [k3]; simp) (by rw [f3]; simp)).1 h40)
          | (rw [if_neg]
             intro q
             apply h40
             rw [show numS ss m - 1 = (n - 1).toNat by omega])
        · refine g_iconst hC dX7_alterCode_43 ?_
          refine g_goto (tgt := 49) hC dX7_alterCode_44 (by decide) ?_
          refine g_iret hC hI rfl dX7_alterCode_49 (Nat.le_of_ble_eq_true rfl) (Nat.le_of_ble_eq_true rfl) ⟨rfl, rfl, rfl, _, rfl, ?_⟩
          rw [e2]
          show _ = ite _ _ _
          rw [if_neg (by omega), if_neg z25]
          obtain ⟨f1, f2, f3⟩ := setAt_some e2
          obtain ⟨k1, k2, k3⟩ := setAt_some e25
          first
          | (rw [if_pos]
             apply Classical.byContradiction
             intro q
             rw [show ((numS ss m : Int) - 1).toNat = numS ss m - 1 by omega] at k3
             exact (hj (numS ss m - 1) (n - 1).toNat (by omega) (by omega) (by omega) (by rw [k3]; simp) (by rw [f3]; simp)).1 h40)
          | (rw [if_neg]
             intro q
             apply h40
             rw [show numS ss m - 1 = (n - 1).toNat by omega])
    · refine g_bipush hC dX7_alterCode_20 (by decide +kernel) ?_
      refine g_iret hC hI rfl dX7_alterCode_22 (Nat.le_of_ble_eq_true rfl) (Nat.le_of_ble_eq_true rfl) ⟨rfl, rfl, rfl, _, rfl, ?_⟩
      rw [e2]
      show _ = ite _ _ _
      rw [if_pos (by omega)]
set_option maxHeartbeats 4000000 in
set_option maxRecDepth 100000 in
theorem kX7_drop (l : Launch) (D : va_G) (ac : Nat → ClassId) {sh : Nat → Nat × Nat} {rf : Nat → Nat → Option Nat} {mem : Nat → Nat → Int} (a a0 : Nat) (sa ra : Nat → Nat) (ss : List (Option SetT)) (n : Int) (hS : RSs sh rf mem a a0 sa ra ss) (hp : inR n) : gMet l D ac mX7_drop 0 [.ref a, .int (iI n)] 0 0 sh rf mem (pU (fun sh1 rf1 mem1 => sh1 = sh ∧ mem1 = mem ∧ rf1 = (if 1 ≤ n ∧ n ≤ ss.length then gur rf a0 (n - 1).toNat none else rf))) := by
  refine gMet.mk (by decide) (by intro v hv; simp at hv; (try rcases hv with rfl | rfl) <;> rfl) (Nat.le_of_ble_eq_true rfl) (fun X hC hI => ?_)
  show gG X sh rf mem 0 0 0 [some (.ref a), some (.int (iI n))] []
  have hS9 := hS
  obtain ⟨ho, hr0, hs0, hc, hl, hv, hj⟩ := hS
  obtain ⟨hp1, hp2⟩ := hp
  refine g_iload_n hC dX7_drop_0 rfl ?_
  refine g_iconst hC dX7_drop_1 ?_
  refine g_icmp_lt (tgt := 22) hC dX7_drop_2 (by decide) ⟨by omega, by omega⟩ ⟨by omega, by omega⟩ (fun h2 => ?_) (fun h2 => ?_)
  · refine g_vret hC hI rfl dX7_drop_22 (Nat.le_of_ble_eq_true rfl) (Nat.le_of_ble_eq_true rfl) ⟨rfl, ?_⟩
    first | exact ⟨rfl, rfl, by rw [if_pos ⟨by omega, by omega⟩]⟩ | exact ⟨rfl, rfl, by rw [if_neg (by omega)]⟩
  · refine g_iload_n hC dX7_drop_5 rfl ?_
    refine g_aload_n hC dX7_drop_6 rfl ?_
    refine g_getI hC fdX7_17 (by assumption) dX7_drop_7 ?_
    refine g_icmp_gt (tgt := 22) hC dX7_drop_10 (by decide) ⟨by omega, by omega⟩ ⟨by omega, by omega⟩ (fun h10 => ?_) (fun h10 => ?_)
    · refine g_vret hC hI rfl dX7_drop_22 (Nat.le_of_ble_eq_true rfl) (Nat.le_of_ble_eq_true rfl) ⟨rfl, ?_⟩
      first | exact ⟨rfl, rfl, by rw [if_pos ⟨by omega, by omega⟩]⟩ | exact ⟨rfl, rfl, by rw [if_neg (by omega)]⟩
    · refine g_aload_n hC dX7_drop_13 rfl ?_
      refine g_getR hC fdX7_11 (by assumption) (by assumption) dX7_drop_14 ?_
      refine g_iload_n hC dX7_drop_17 rfl ?_
      refine g_iconst hC dX7_drop_18 ?_
      refine g_isub hC dX7_drop_19 ?_
      refine g_null hC dX7_drop_20 ?_
      refine g_aastN hC (by assumption) (by decide) (by omega) (by omega) (by decide) dX7_drop_21 ?_
      refine g_vret hC hI rfl dX7_drop_22 (Nat.le_of_ble_eq_true rfl) (Nat.le_of_ble_eq_true rfl) ⟨rfl, ?_⟩
      first | exact ⟨rfl, rfl, by rw [if_pos ⟨by omega, by omega⟩]⟩ | exact ⟨rfl, rfl, by rw [if_neg (by omega)]⟩
