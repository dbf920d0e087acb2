set_option maxHeartbeats 4000000 in
set_option maxRecDepth 100000 in
theorem kX7_add (l : Launch) (D : va_G) (ac : Nat → ClassId) {sh : Nat → Nat × Nat} {rf : Nat → Nat → Option Nat} {mem : Nat → Nat → Int} (a a0 : Nat) (sa ra : Nat → Nat) (ss : List (Option SetT)) (n g : Int) (hS : RSs sh rf mem a a0 sa ra ss) (hn : 0 ≤ n ∧ n < 100) (hg : g = 0 ∨ g = 1) : gMet l D ac mX7_add 2 [.ref a, .int (iI n), .int (iI g)] 2 65 sh rf mem (pA (fun r sh1 rf1 mem1 => (20 ≤ ss.length ∧ r = -1 ∧ sh1 = sh ∧ rf1 = rf ∧ mem1 = mem) ∨ (ss.length < 20 ∧ r = ss.length + 1 ∧ ∃ s0 r0, (sh s0).1 = 0 ∧ (sh r0).1 = 0 ∧ RSs sh1 rf1 mem1 a a0 (va_up sa ss.length s0) (va_up ra ss.length r0) (ss ++ [some (n, g, [], 0)]) ∧ RSf sh rf mem sh1 rf1 mem1 ra ss))) := by
  refine gMet.mk (by decide) (by intro v hv; simp at hv; (try rcases hv with rfl | rfl | rfl) <;> rfl) (Nat.le_of_ble_eq_true rfl) (fun X hC hI => ?_)
  show gG X sh rf mem 0 0 0 [some (.ref a), some (.int (iI n)), some (.int (iI g))] []
  have hS9 := hS
  obtain ⟨ho, hr0, hs0, hc, hl, hv, hj⟩ := hS
  have n0 : a ≠ a0 := by rintro e; rw [← e, ho] at hs0; simp at hs0
  refine g_aload_n hC dX7_add_0 rfl ?_
  refine g_VP hC (kX7_hasRoom (gl X) (gD X) (gac X) a a0 sa ra ss hS9) cvX7_hasRoom lkX7_29 (by assumption) rfl rfl (Nat.le_of_ble_eq_true rfl) (hI.fit (Nat.le_of_ble_eq_true rfl) (Nat.le_of_ble_eq_true rfl) (Nat.le_of_ble_eq_true rfl)) dX7_add_1 (fun x1 hx1 => ?_)
  refine g_if_ne (tgt := 9) hC dX7_add_4 (by decide) ⟨by omega, by omega⟩ (fun h4 => ?_) (fun h4 => ?_)
  · refine g_aload_n hC dX7_add_9 rfl ?_
    refine g_getR hC fdX7_11 (by assumption) (by assumption) dX7_add_10 ?_
    refine g_aload_n hC dX7_add_13 rfl ?_
    refine g_getI hC fdX7_17 (by assumption) dX7_add_14 ?_
    refine g_newN hC neX7_9 (by rw [hI.rm]; exact (Nat.le_of_ble_eq_true rfl)) (by rw [hI.rm]; exact (Nat.le_of_ble_eq_true rfl)) dX7_add_17 (fun q17 sh17 rf17 mem17 hq17 esh17 erf17 emem17 => ?_)
    have ho17 := sh_keep esh17 hq17 ho (by decide)
    have hs17 := sh_keep esh17 hq17 hs0 (by decide)
    have s17 := sh_new esh17
    have z1 := sh_ne hq17 ho (by decide)
    have z2 := sh_ne hq17 hs0 (by decide)
    refine g_dup hC dX7_add_20 rfl ?_
    refine g_iload_n hC dX7_add_21 rfl ?_
    refine g_iload_n hC dX7_add_22 rfl ?_
    refine g_IU hC (kX6_init (gl X) (gD X) (gac X) q17 n g s17 (by rw [emem17, va_up_self]) hn hg) ciX6_init lkX7_33 rfl rfl (Nat.le_of_ble_eq_true rfl) (hI.fit (Nat.le_of_ble_eq_true rfl) (Nat.le_of_ble_eq_true rfl) (Nat.le_of_ble_eq_true rfl)) dX7_add_23 (fun sh23 rf23 mem23 hx23 => ?_)
    obtain ⟨r0, f1, f2, f3, f4, f5, f6⟩ := hx23
    have z3 : a ≠ r0 := by rintro e; rw [← e, ho17] at f1; simp at f1
    have z4 : a0 ≠ r0 := by rintro e; rw [← e, hs17] at f1; simp at f1
    have z5 : q17 ≠ r0 := by rintro e; rw [← e, s17] at f1; simp at f1
    have ho23 : sh23 a = (7, 0) := by rw [f4 a z3]; exact ho17
    have hs23 : sh23 a0 = (16, 20) := by rw [f4 a0 z4]; exact hs17
    have s23 : sh23 q17 = (6, 0) := f2.1
    have hr23 : gur rf23 a0 (mem a 1).toNat (some q17) a 0 = some a0 := by rw [gur_a _ _ _ _ n0, f5 a z1 z3, erf17, va_up_ne _ _ z1]; exact hr0
    have hc23 : mem23 a 1 = ss.length := by rw [f6 a z1 z3, emem17, va_up_ne _ _ z1]; exact hc
    refine g_aast hC hs23 (Or.inr ⟨rfl, rfl⟩) s23 (by omega) (by omega) (by decide) dX7_add_26 ?_
    refine g_aload_n hC dX7_add_27 rfl ?_
    refine g_dup hC dX7_add_28 rfl ?_
    refine g_getI hC fdX7_17 (by assumption) dX7_add_29 ?_
    refine g_iconst hC dX7_add_32 ?_
    refine g_iadd hC dX7_add_33 ?_
    refine g_putI hC fdX7_17 (by assumption) rfl rfl dX7_add_34 ?_
    refine g_aload_n hC dX7_add_37 rfl ?_
    refine g_getI hC fdX7_17 (by assumption) dX7_add_38 ?_
    refine g_iret hC hI rfl dX7_add_41 (Nat.le_of_ble_eq_true rfl) (Nat.le_of_ble_eq_true rfl) ⟨_, rfl, ?_⟩
    right
    have fr0 : (sh r0).1 = 0 := by rw [esh17, va_up_ne _ _ z5.symm] at f1; exact f1
    have gg : ∀ b, (sh b).1 ≠ 0 → b ≠ q17 ∧ b ≠ r0 := fun b hb => ⟨fun e => hb (by rw [e]; exact hq17), fun e => hb (by rw [e]; exact fr0)⟩
    refine ⟨by omega, by rw [gup_s]; omega, q17, r0, hq17, fr0, RSs_add hS9 (by omega) hq17 fr0 ⟨f2.1, by rw [gur_a _ _ _ _ z2.symm]; exact f2.2.1, f2.2.2⟩ (RsV.fr ⟨by funext j; rw [gup_a _ _ _ _ z1.symm], by funext j; rw [gup_a _ _ _ _ z3.symm]⟩ f3) (fun b hb => ?_) (fun b hb h1 => ?_) (fun b hb h1 => ?_) (fun i => ?_) (by rw [gup_s]; omega)⟩
    · rw [f4 b (gg b hb).2, esh17, va_up_ne _ _ (gg b hb).1]
    · funext j
      rw [gur_a _ _ _ _ h1, f5 b (gg b hb).1 (gg b hb).2, erf17, va_up_ne _ _ (gg b hb).1]
    · funext j
      rw [gup_a _ _ _ _ h1, f6 b (gg b hb).1 (gg b hb).2, emem17, va_up_ne _ _ (gg b hb).1]
    · have e9 : (mem a 1).toNat = ss.length := by omega
      rw [e9]
      by_cases q : i = ss.length
      · subst q
        rw [gur_s, if_pos rfl]
      · rw [gur_k _ _ _ _ q, if_neg q, f5 a0 z2 z4, erf17, va_up_ne _ _ z2]
  · refine g_iconst hC dX7_add_7 ?_
    refine g_iret hC hI rfl dX7_add_8 (Nat.le_of_ble_eq_true rfl) (Nat.le_of_ble_eq_true rfl) ⟨_, rfl, ?_⟩
    exact Or.inl ⟨by omega, rfl, rfl, rfl, rfl⟩
/-- the sets behind a whole import -/
def toS (ss : List (Option SetT)) (ob : List Int) : List (Option SetT) :=
  if numS ss (ob.getD 1 0) = 0 then ss ++ [some (ob.getD 1 0, (if ob.getD 2 0 = 1 then 1 else 0), wds ob (ob.getD 3 0).toNat, (ob.getD 3 0).toNat)]
  else ss.set (numS ss (ob.getD 1 0) - 1) (some (ob.getD 1 0, (if ob.getD 2 0 = 1 then 1 else 0), wds ob (ob.getD 3 0).toNat, (ob.getD 3 0).toNat))
def toN (ss : List (Option SetT)) (ob : List Int) : Int := if numS ss (ob.getD 1 0) = 0 then ss.length + 1 else numS ss (ob.getD 1 0)
theorem set_last (ss : List (Option SetT)) (u v : Option SetT) : (ss ++ [u]).set ss.length v = ss ++ [v] := by
  apply List.ext_getElem?
  intro j
  rw [List.getElem?_set]
  by_cases h : ss.length = j
  · subst h
    simp
  · rw [if_neg h]
    by_cases h2 : j < ss.length
    · rw [List.getElem?_append_left h2, List.getElem?_append_left h2]
    · rw [List.getElem?_eq_none (by simp; omega), List.getElem?_eq_none (by simp; omega)]
theorem RSf.trans {sh sh1 sh2 : Nat → Nat × Nat} {rf rf1 rf2 : Nat → Nat → Option Nat} {m m1 m2 : Nat → Nat → Int} {ra ra1 : Nat → Nat} {ss ss1 : List (Option SetT)} (h1 : RSf sh rf m sh1 rf1 m1 ra ss) (h2 : RSf sh1 rf1 m1 sh2 rf2 m2 ra1 ss1) (hr : ∀ i, ss1.getD i none ≠ none → (∃ j, ss.getD j none ≠ none ∧ ra1 i = ra j) ∨ (sh (ra1 i)).1 = 0) : RSf sh rf m sh2 rf2 m2 ra ss := by
  refine ⟨fun b hb => ?_, fun b hb c1 c2 c3 c4 => ?_⟩
  · rw [h2.1 b (by rw [h1.1 b hb]; exact hb), h1.1 b hb]
  · have e := h1.1 b hb
    obtain ⟨p1, p2⟩ := h1.2 b hb c1 c2 c3 c4
    obtain ⟨q1, q2⟩ := h2.2 b (by rw [e]; exact hb) (by rw [e]; exact c1) (by rw [e]; exact c2) (by rw [e]; exact c3) (fun i hi => by
      rcases hr i hi with ⟨j, j1, j2⟩ | hz
      · rw [j2]; exact c4 j j1
      · rintro rfl; exact hb hz)
    exact ⟨q1.trans p1, q2.trans p2⟩
set_option maxHeartbeats 4000000 in
set_option maxRecDepth 100000 in
theorem kX7_takeOver (l : Launch) (D : va_G) (ac : Nat → ClassId) {sh : Nat → Nat × Nat} {rf : Nat → Nat → Option Nat} {mem : Nat → Nat → Int} (a a0 : Nat) (sa ra : Nat → Nat) (ss : List (Option SetT)) (b b0 : Nat) (ob : List Int) (hS : RSs sh rf mem a a0 sa ra ss) (hOb : OcO sh rf b b0) (hvb : OcV mem b b0 ob) (hk : 0 ≤ ob.getD 1 0 ∧ ob.getD 1 0 < 100 ∧ ob.getD 3 0 ≤ 60) : gMet l D ac mX7_takeOver 5 [.ref a, .ref b] 2 65 sh rf mem (pA (fun r sh1 rf1 mem1 => (¬ canT ss (ob.getD 1 0) ∧ r = -1 ∧ sh1 = sh ∧ rf1 = rf ∧ mem1 = mem) ∨ (canT ss (ob.getD 1 0) ∧ r = toN ss ob ∧ (∃ sa1 ra1, RSs sh1 rf1 mem1 a a0 sa1 ra1 (toS ss ob) ∧ (∀ i, (toS ss ob).getD i none ≠ none → (∃ j, ss.getD j none ≠ none ∧ ra1 i = ra j) ∨ (sh (ra1 i)).1 = 0)) ∧ RSf sh rf mem sh1 rf1 mem1 ra ss))) := by
  refine gMet.mk (by decide) (by intro v hv; simp at hv; (try rcases hv with rfl | rfl) <;> rfl) (Nat.le_of_ble_eq_true rfl) (fun X hC hI => ?_)
  show gG X sh rf mem 0 0 0 [some (.ref a), some (.ref b), none, none, none, none] []
  have hS9 := hS
  obtain ⟨ho, hr0, hs0, hc, hl, hv, hj⟩ := hS
  have hO8 := hOb
  have hv8 := hvb
  obtain ⟨bo, br0, bs0⟩ := hOb
  obtain ⟨hk1, hk2, hk3⟩ := hk
  have nle := numS_le (ob.getD 1 0) ss
  have J38 : ∀ (sh1 : Nat → Nat × Nat) (rf1 : Nat → Nat → Option Nat) (mem1 : Nat → Nat → Int) (cl sl : Nat) (sa1 ra1 : Nat → Nat) (ss1 : List (Option SetT)) (nn : Int), cl ≤ 2 → sl ≤ 65 → canT ss (ob.getD 1 0) → nn = toN ss ob → RSs sh1 rf1 mem1 a a0 sa1 ra1 ss1 → RSf sh rf mem sh1 rf1 mem1 ra ss → (∀ i, ss1.getD i none ≠ none → (∃ j, ss.getD j none ≠ none ∧ ra1 i = ra j) ∨ (sh (ra1 i)).1 = 0) → 1 ≤ nn → nn ≤ 20 → (∃ y, setAt ss1 nn = some y ∧ y.1 = ob.getD 1 0 ∧ ss1.set (nn - 1).toNat (some (ob.getD 1 0, (if ob.getD 2 0 = 1 then 1 else 0), wds ob (ob.getD 3 0).toNat, (ob.getD 3 0).toNat)) = toS ss ob) → gG X sh1 rf1 mem1 cl sl 38 [some (.ref a), some (.ref b), some (.int (iI (ob.getD 1 0))), some (.int (iI (numS ss (ob.getD 1 0)))), some (.int (iI nn)), none] [] := by
    intro sh1 rf1 mem1 cl sl sa1 ra1 ss1 nn hcl hsl hcan hnn hS1 hF1 hR1 h1 h20 hy
    obtain ⟨y41, e41, n41, t41⟩ := hy
    obtain ⟨O41, V41⟩ := RSs.at hS1 e41
    have o41 := O41.1
    have ho1 := hS1.1
    have b9 : (sh b).1 ≠ 0 := by rw [bo]; simp
    have b8 : (sh b0).1 ≠ 0 := by rw [bs0]; simp
    have fb := hF1.2 b b9 (by rw [bo]; simp) (by rw [bo]; simp) (by rw [bo]; simp) (fun i hi => by rintro e9; obtain ⟨z, hz⟩ := Option.ne_none_iff_exists'.mp hi; have := ((hv i (getD_lt hi)).2 z hz).2.1.2.2; rw [← e9, bo] at this; simp at this)
    have fb0 := hF1.2 b0 b8 (by rw [bs0]; simp) (by rw [bs0]; simp) (by rw [bs0]; simp) (fun i hi => by rintro e9; obtain ⟨z, hz⟩ := Option.ne_none_iff_exists'.mp hi; have := ((hv i (getD_lt hi)).2 z hz).2.1.2.2; rw [← e9, bs0] at this; simp at this)
    have bo1 : sh1 b = (5, 0) := by rw [hF1.1 b b9]; exact bo
    have hOb1 : OcO sh1 rf1 b b0 := ⟨bo1, by rw [fb.1]; exact br0, by rw [hF1.1 b0 b8]; exact bs0⟩
    have hvb1 := OcV.fr ⟨fb.2, fb0.2⟩ hv8
    refine g_aload_n hC dX7_takeOver_38 rfl ?_
    refine g_iload hC dX7_takeOver_39 rfl ?_
    refine g_VR hC (kX7_at (gl X) (gD X) (gac X) a a0 sa1 ra1 ss1 nn hS1 ⟨by omega, by omega⟩) cvX7_at lkX7_25 (by assumption) rfl rfl (Nat.le_of_ble_eq_true rfl) (hI.fit (Nat.le_of_ble_eq_true rfl) (by omega) (by omega)) dX7_takeOver_41 (fun x41 hx41 => ?_)
    skip
    · rw [e41] at hx41
      subst hx41
      refine g_astore hC dX7_takeOver_44 (Nat.le_of_ble_eq_true rfl) ?_
      dsimp only [List.set]
      refine g_aload hC dX7_takeOver_46 rfl ?_
      refine g_ifnullR hC dX7_takeOver_48 ?_
      refine g_aload hC dX7_takeOver_51 rfl ?_
      refine g_aload_n hC dX7_takeOver_53 rfl ?_
      refine g_VV hC (kX6_readFrom (gl X) (gD X) (gac X) (sa1 (nn - 1).toNat) (ra1 (nn - 1).toNat) y41.1 y41.2.1 y41.2.2.1 y41.2.2.2 b b0 ob O41 V41 hOb1 hvb1 hk3) cvX6_readFrom lkX7_68 (by assumption) rfl rfl (Nat.le_of_ble_eq_true rfl) (hI.fit (Nat.le_of_ble_eq_true rfl) (by omega) (by omega)) dX7_takeOver_54 (fun mem54 hx54 => ?_)
      skip
      refine g_iload hC dX7_takeOver_57 rfl ?_
      refine g_iret hC hI rfl dX7_takeOver_59 (by first | assumption | omega) (by first | assumption | omega) ⟨_, rfl, ?_⟩
      right
      obtain ⟨w1, w2, w3⟩ := setAt_some e41
      obtain ⟨p1, p2⟩ := RSs_set (y := (y41.1, (if ob.getD 2 0 = 1 then 1 else 0), wds ob (ob.getD 3 0).toNat, (ob.getD 3 0).toNat)) hS1 w3 hx54.1 hx54.2
      rw [n41, t41] at p1
      refine ⟨hcan, hnn, ⟨sa1, ra1, p1, fun i hi => hR1 i ?_⟩, hF1.trans p2 hR1⟩
      rw [← t41, getD_setS (by omega)] at hi
      by_cases e : i = (nn - 1).toNat
      · rw [e, w3]; simp
      · rw [if_neg e] at hi; exact hi
  refine g_aload_n hC dX7_takeOver_0 rfl ?_
  refine g_iconst hC dX7_takeOver_1 ?_
  refine g_VP hC (kX5_valueAt (gl X) (gD X) (gac X) b b0 ob 1 hO8 hv8 ⟨by decide, by decide⟩) cvX5_valueAt lkX7_56 (by assumption) rfl rfl (Nat.le_of_ble_eq_true rfl) (hI.fit (Nat.le_of_ble_eq_true rfl) (Nat.le_of_ble_eq_true rfl) (Nat.le_of_ble_eq_true rfl)) dX7_takeOver_2 (fun x2 hx2 => ?_)
  have e2 : x2 = ob.getD 1 0 := by
    have := hx2.2.2
    simpa using this
  subst e2
  refine g_istore_n hC 2 rfl dX7_takeOver_5 (Nat.le_of_ble_eq_true rfl) ?_
  dsimp only [List.set]
  refine g_aload_n hC dX7_takeOver_6 rfl ?_
  refine g_iload_n hC dX7_takeOver_7 rfl ?_
  refine g_VP hC (kX7_canTakeOver (gl X) (gD X) (gac X) a a0 sa ra ss (ob.getD 1 0) hS9 ⟨by omega, by omega⟩) cvX7_canTakeOver lkX7_61 (by assumption) rfl rfl (Nat.le_of_ble_eq_true rfl) (hI.fit (Nat.le_of_ble_eq_true rfl) (Nat.le_of_ble_eq_true rfl) (Nat.le_of_ble_eq_true rfl)) dX7_takeOver_8 (fun x8 hx8 => ?_)
  refine g_if_ne (tgt := 16) hC dX7_takeOver_11 (by decide) ⟨by omega, by omega⟩ (fun h11 => ?_) (fun h11 => ?_)
  · refine g_aload_n hC dX7_takeOver_16 rfl ?_
    refine g_iload_n hC dX7_takeOver_17 rfl ?_
    refine g_VP hC (kX7_numberOf (gl X) (gD X) (gac X) a a0 sa ra ss (ob.getD 1 0) hS9 ⟨by omega, by omega⟩) cvX7_numberOf lkX7_21 (by assumption) rfl rfl (Nat.le_of_ble_eq_true rfl) (hI.fit (Nat.le_of_ble_eq_true rfl) (Nat.le_of_ble_eq_true rfl) (Nat.le_of_ble_eq_true rfl)) dX7_takeOver_18 (fun x18 hx18 => ?_)
    subst hx18
    refine g_istore_n hC 3 rfl dX7_takeOver_21 (Nat.le_of_ble_eq_true rfl) ?_
    dsimp only [List.set]
    refine g_iload_n hC dX7_takeOver_22 rfl ?_
    refine g_if_ne (tgt := 35) hC dX7_takeOver_23 (by decide) ⟨by omega, by omega⟩ (fun h23 => ?_) (fun h23 => ?_)
    · refine g_iload_n hC dX7_takeOver_35 rfl ?_
      refine g_istore hC dX7_takeOver_36 (Nat.le_of_ble_eq_true rfl) ?_
      dsimp only [List.set]
      first
      | (have hz9 : numS ss (ob.getD 1 0) ≠ 0 := by omega
         obtain ⟨y, y1, y2⟩ := setAt_num hz9
         refine J38 _ _ _ _ _ _ _ ss _ (by decide) (by decide) (by rcases hx8 with q | q; exact q.2; exfalso; omega) (by rw [toN, if_neg hz9]) hS9 RSf.rf (fun i hi => Or.inl ⟨i, hi, rfl⟩) (by omega) (by omega) ⟨y, y1, y2, ?_⟩
         rw [toS, if_neg hz9, show ((numS ss (ob.getD 1 0) : Int) - 1).toNat = numS ss (ob.getD 1 0) - 1 by omega])
      | (have hz : numS ss (ob.getD 1 0) = 0 := by omega
         have hlen : ss.length < 20 := by
           have hc9 : canT ss (ob.getD 1 0) := by rcases hx8 with q | q; exact q.2; exfalso; omega
           unfold canT at hc9
           rw [hz, setAt_0 (by decide)] at hc9
           exact hc9
         rcases hx29 with ⟨q, -⟩ | ⟨q1, q2, s0, r0, q3, q4, q5, q6⟩
         · exfalso; omega
         · refine J38 _ _ _ _ _ _ _ _ _ (by decide) (by decide) (by rcases hx8 with q | q; exact q.2; exfalso; omega) (by rw [toN, if_pos hz]; exact q2) q5 q6 (fun i hi => ?_) (by omega) (by omega) ⟨(ob.getD 1 0, 0, [], 0), ?_, rfl, ?_⟩
           · rw [getD_appS] at hi
             by_cases e : i = ss.length
             · subst e; right; rw [va_up_self]; exact q4
             · left; rw [if_neg e] at hi; exact ⟨i, hi, va_up_ne _ _ e⟩
           · rw [setAt, if_pos (by omega), getD_appS, if_pos (by omega)]
           · rw [toS, if_pos hz, show (x29 - 1).toNat = ss.length by omega, set_last])
    · refine g_aload_n hC dX7_takeOver_26 rfl ?_
      refine g_iload_n hC dX7_takeOver_27 rfl ?_
      refine g_iconst hC dX7_takeOver_28 ?_
      refine g_VA hC (kX7_add (gl X) (gD X) (gac X) a a0 sa ra ss (ob.getD 1 0) 0 hS9 ⟨by omega, by omega⟩ (Or.inl rfl)) cvX7_add lkX7_64 (by assumption) rfl rfl (Nat.le_of_ble_eq_true rfl) (hI.fit (Nat.le_of_ble_eq_true rfl) (Nat.le_of_ble_eq_true rfl) (Nat.le_of_ble_eq_true rfl)) dX7_takeOver_29 (fun x29 sh29 rf29 mem29 hx29 => ?_)
      refine g_goto (tgt := 36) hC dX7_takeOver_32 (by decide) ?_
      refine g_istore hC dX7_takeOver_36 (Nat.le_of_ble_eq_true rfl) ?_
      dsimp only [List.set]
      first
      | (have hz9 : numS ss (ob.getD 1 0) ≠ 0 := by omega
         obtain ⟨y, y1, y2⟩ := setAt_num hz9
         refine J38 _ _ _ _ _ _ _ ss _ (by decide) (by decide) (by rcases hx8 with q | q; exact q.2; exfalso; omega) (by rw [toN, if_neg hz9]) hS9 RSf.rf (fun i hi => Or.inl ⟨i, hi, rfl⟩) (by omega) (by omega) ⟨y, y1, y2, ?_⟩
         rw [toS, if_neg hz9, show ((numS ss (ob.getD 1 0) : Int) - 1).toNat = numS ss (ob.getD 1 0) - 1 by omega])
      | (have hz : numS ss (ob.getD 1 0) = 0 := by omega
         have hlen : ss.length < 20 := by
           have hc9 : canT ss (ob.getD 1 0) := by rcases hx8 with q | q; exact q.2; exfalso; omega
           unfold canT at hc9
           rw [hz, setAt_0 (by decide)] at hc9
           exact hc9
         rcases hx29 with ⟨q, -⟩ | ⟨q1, q2, s0, r0, q3, q4, q5, q6⟩
         · exfalso; omega
         · refine J38 _ _ _ _ _ _ _ _ _ (by decide) (by decide) (by rcases hx8 with q | q; exact q.2; exfalso; omega) (by rw [toN, if_pos hz]; exact q2) q5 q6 (fun i hi => ?_) (by omega) (by omega) ⟨(ob.getD 1 0, 0, [], 0), ?_, rfl, ?_⟩
           · rw [getD_appS] at hi
             by_cases e : i = ss.length
             · subst e; right; rw [va_up_self]; exact q4
             · left; rw [if_neg e] at hi; exact ⟨i, hi, va_up_ne _ _ e⟩
           · rw [setAt, if_pos (by omega), getD_appS, if_pos (by omega)]
           · rw [toS, if_pos hz, show (x29 - 1).toNat = ss.length by omega, set_last])
  · refine g_iconst hC dX7_takeOver_14 ?_
    refine g_iret hC hI rfl dX7_takeOver_15 (by first | assumption | omega) (by first | assumption | omega) ⟨_, rfl, ?_⟩
    exact Or.inl ⟨by rcases hx8 with q | q; exfalso; omega; exact q.2, rfl, rfl, rfl, rfl⟩
set_option maxHeartbeats 4000000 in
set_option maxRecDepth 100000 in
theorem kX7_init (l : Launch) (D : va_G) (ac : Nat → ClassId) {sh : Nat → Nat × Nat} {rf : Nat → Nat → Option Nat} {mem : Nat → Nat → Int} (a : Nat) (ho : sh a = (7, 0)) (hz : mem a = fun _ => 0) : gMet l D ac mX7_init 1 [.ref a] 1 20 sh rf mem (pU (fun sh1 rf1 mem1 => ∃ a0, (sh a0).1 = 0 ∧ (∀ sa ra, RSs sh1 rf1 mem1 a a0 sa ra []) ∧ (∀ b, b ≠ a0 → sh1 b = sh b) ∧ (∀ b, b ≠ a → b ≠ a0 → rf1 b = rf b) ∧ (∀ b, b ≠ a0 → mem1 b = mem b))) := by
  refine gMet.mk (by decide) (by intro v hv; simp at hv; (try rcases hv with rfl) <;> rfl) (Nat.le_of_ble_eq_true rfl) (fun X hC hI => ?_)
  show gG X sh rf mem 0 0 0 [some (.ref a)] []
  refine g_aload_n hC dX7_init_0 rfl ?_
  refine g_objInit hC lkX7_3 oi_in oi_co (by rw [hI.rm]; exact (Nat.le_of_ble_eq_true rfl)) (by rw [hI.rm]; exact (Nat.le_of_ble_eq_true rfl)) dX7_init_1 ?_
  refine g_aload_n hC dX7_init_4 rfl ?_
  refine g_bipush hC dX7_init_5 (by decide +kernel) ?_
  refine g_newqN 20 hC clX7_9 (Or.inr ⟨rfl, rfl⟩) rfl (by decide) (by rw [hI.rm]; exact (Nat.le_of_ble_eq_true rfl)) (by rw [hI.rm]; exact (Nat.le_of_ble_eq_true rfl)) dX7_init_7 (fun q7 sh7 rf7 mem7 hq7 esh7 erf7 emem7 => ?_)
  have ho7 := sh_keep esh7 hq7 ho (by decide)
  have s7 := sh_new esh7
  have z7 := sh_ne hq7 ho (by decide)
  refine g_putR hC fdX7_11 hI.nm (fun C T N h => by cases h; rfl) (by assumption) rfl rfl dX7_init_10 ?_
  refine g_vret hC hI rfl dX7_init_13 (Nat.le_of_ble_eq_true rfl) (Nat.le_of_ble_eq_true rfl) ⟨rfl, ?_⟩
  refine ⟨q7, hq7, fun sa ra => ⟨ho7, gur_s _ _ _ _, s7, by rw [emem7, va_up_ne _ _ z7, hz]; rfl, by decide, fun i hi => absurd hi (Nat.not_lt_zero i), fun i j hi => absurd hi (Nat.not_lt_zero i)⟩, fun b b0 => ?_, fun b b9 b0 => ?_, fun b b0 => ?_⟩
  · rw [esh7, va_up_ne _ _ b0]
  · funext k
    rw [gur_a _ _ _ _ b9, erf7, va_up_ne _ _ b0]
  · rw [emem7, va_up_ne _ _ b0]
