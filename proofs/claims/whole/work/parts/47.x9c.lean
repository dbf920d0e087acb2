section SR
variable {ss : List (Option SetT)} {rp : List Int} {ms : List (Option MemT)}
theorem altC_le (n m : Int) : -100 ≤ altC ss n m ∧ altC ss n m ≤ 12 := by
  unfold altC
  split
  · omega
  · split
    · omega
    · split
      · omega
      · split <;> omega
theorem altC_eq {n m : Int} {q : SetT} (e : setAt ss n = some q) : altC ss n m = if ¬ (0 ≤ m ∧ m < 100) then -4 else if numS ss m = 0 then 0 else if (numS ss m : Int) = n then 4 else 8 := by rw [altC, e]
theorem altC_ok {n m : Int} {q : SetT} (e : setAt ss n = some q) (h : altC ss n m = 0 ∨ altC ss n m = 4) : (0 ≤ m ∧ m < 100) ∧ (altC ss n m = 4 → q.1 = m) := by
  rw [altC_eq e] at h ⊢
  by_cases h1 : 0 ≤ m ∧ m < 100
  · rw [if_neg (fun w => w h1)] at h ⊢
    refine ⟨h1, fun h2 => ?_⟩
    by_cases h3 : numS ss m = 0
    · rw [if_pos h3] at h2; omega
    · rw [if_neg h3] at h2
      by_cases h4 : (numS ss m : Int) = n
      · obtain ⟨u, u1, u2⟩ := setAt_num h3
        rw [h4, e] at u1
        cases u1
        exact u2
      · rw [if_neg h4] at h2; omega
  · rw [if_pos h1] at h; omega
theorem altS_none {n m y : Int} (e : setAt ss n = none) : altS ss n m y = ss := by rw [altS, e]
theorem altS_no {n m y : Int} (h : ¬ (y = 0 ∧ altC ss n m = 0)) : altS ss n m y = ss := by
  unfold altS
  split
  · rfl
  · exact if_neg h
theorem altS_yes {n m y : Int} {q : SetT} (e : setAt ss n = some q) (h : y = 0 ∧ altC ss n m = 0) : altS ss n m y = ss.set (n - 1).toNat (some (m, q.2)) := by rw [altS, e]; exact if_pos h
theorem repC_eq {f t : Int} {p q : SetT} (e1 : setAt ss f = some p) (e2 : setAt ss t = some q) : repC ss f t = if f = t then 8 else if 60 < p.2.2.2 + q.2.2.2 then 12 else if p.2.2.2 = 0 then 4 else 0 := by rw [repC, e1, e2]
theorem repC_le (f t : Int) : -100 ≤ repC ss f t ∧ repC ss f t ≤ 12 := by
  unfold repC
  split
  · split
    · omega
    · split
      · omega
      · split <;> omega
  · omega
theorem repC_none1 {f t : Int} (e : setAt ss f = none) : repC ss f t = -2 := by rw [repC, e]
theorem repC_none2 {f t : Int} (e : setAt ss t = none) : repC ss f t = -2 := by
  rw [repC, e]
  cases setAt ss f <;> rfl
theorem repS_no {f t y : Int} (h : ¬ (y = 0 ∧ repC ss f t = 0)) : repS ss f t y = ss := by
  unfold repS
  split
  · exact if_neg h
  · rfl
theorem repS_yes {f t y : Int} {p q : SetT} (e1 : setAt ss f = some p) (e2 : setAt ss t = some q) (h : y = 0 ∧ repC ss f t = 0) : repS ss f t y = ss.set (t - 1).toNat (some (q.1, q.2.1, q.2.2.1.take q.2.2.2 ++ p.2.2.1.take p.2.2.2, q.2.2.2 + p.2.2.2)) := by rw [repS, e1, e2]; exact if_pos h
theorem repC_ok {f t : Int} {p q : SetT} (e1 : setAt ss f = some p) (e2 : setAt ss t = some q) (h : repC ss f t = 0) : f ≠ t ∧ p.2.2.2 + q.2.2.2 ≤ 60 ∧ p.2.2.2 ≠ 0 := by
  rw [repC_eq e1 e2] at h
  by_cases h1 : f = t
  · rw [if_pos h1] at h; omega
  · rw [if_neg h1] at h
    by_cases h2 : 60 < p.2.2.2 + q.2.2.2
    · rw [if_pos h2] at h; omega
    · rw [if_neg h2] at h
      by_cases h3 : p.2.2.2 = 0
      · rw [if_pos h3] at h; omega
      · exact ⟨h1, by omega, h3⟩
theorem genC_eq {n c : Int} {q : SetT} (e : setAt ss n = some q) : genC ss n c = if c < 1 ∨ 60 < c then -4 else if q.2.2.2 + c ≤ 60 then 0 else 12 := by rw [genC, e]
theorem genC_none {n c : Int} (e : setAt ss n = none) : genC ss n c = -2 := by rw [genC, e]
theorem genC_le (n c : Int) : -100 ≤ genC ss n c ∧ genC ss n c ≤ 12 := by
  unfold genC
  split
  · omega
  · split
    · omega
    · split <;> omega
theorem genC_ok {n c : Int} {q : SetT} (e : setAt ss n = some q) (h : genC ss n c = 0 ∨ genC ss n c = 4) : genC ss n c = 0 ∧ 1 ≤ c ∧ q.2.2.2 + c ≤ 60 := by
  rw [genC_eq e] at h ⊢
  by_cases h1 : c < 1 ∨ 60 < c
  · rw [if_pos h1] at h; omega
  · rw [if_neg h1] at h ⊢
    by_cases h2 : q.2.2.2 + c ≤ 60
    · rw [if_pos h2]; exact ⟨rfl, by omega, h2⟩
    · rw [if_neg h2] at h; omega
theorem genS_no {n c v s y : Int} (h : ¬ (y = 0 ∧ genC ss n c = 0)) : genS ss n c v s y = ss := by
  unfold genS
  split
  · rfl
  · exact if_neg h
theorem genS_yes {n c v s y : Int} {q : SetT} (e : setAt ss n = some q) (h : y = 0 ∧ genC ss n c = 0) : genS ss n c v s y = ss.set (n - 1).toNat (some (q.1, q.2.1, q.2.2.1.take q.2.2.2 ++ ser v s c.toNat, q.2.2.2 + c.toNat)) := by rw [genS, e]; exact if_pos h
theorem verC_le (n : Int) : -100 ≤ verC ss n ∧ verC ss n ≤ 12 := by
  unfold verC
  split
  · omega
  · split <;> omega
theorem verC_none {n : Int} (e : setAt ss n = none) : verC ss n = -2 := by rw [verC, e]
theorem verC_04 {n : Int} {q : SetT} (e : setAt ss n = some q) : verC ss n = 0 ∨ verC ss n = 4 := by
  have w : verC ss n = if q.2.2.2 = q.2.2.1.length then 4 else 0 := by rw [verC, e]
  rw [w]
  split <;> omega
theorem verS_none {n y : Int} (e : setAt ss n = none) : verS ss n y = ss := by rw [verS, e]
theorem verS_no {n y : Int} (h : y ≠ 0) : verS ss n y = ss := by
  unfold verS
  split
  · rfl
  · exact if_neg h
theorem verS_yes {n y : Int} {q : SetT} (e : setAt ss n = some q) (h : y = 0) : verS ss n y = ss.set (n - 1).toNat (some (q.1, q.2.1, q.2.2.1, q.2.2.1.length)) := by rw [verS, e]; exact if_pos h
end SR
set_option maxHeartbeats 4000000 in
set_option maxRecDepth 100000 in
theorem kX9_alter (lc : Launch) (D : va_G) (ac : Nat → ClassId) {sh : Nat → Nat × Nat} {rf : Nat → Nat → Option Nat} {mem : Nat → Nat → Int} (G : Nat → Prop) (x : Nat) (A la l0 l1 l2 sa ra : Nat → Nat) (rp ex ar : List Int) (ms : List (Option MemT)) (ss : List (Option SetT)) (ch : Lns) (ds : Dfs) (lk : Nat) (g y z : Int) (n m : Int) (hW : WXa G sh rf mem x A la l0 l1 l2 sa ra rp ms ss ch ds lk ex ar g y z) (h_p : inR n) (h_q : inR m) : gMet lc D ac mX9_alter 6 [.ref x, .int (iI n), .int (iI m)] 0 0 sh rf mem (pA (fun r sh1 rf1 mem1 => r = altC ss n m ∧ WN G sh rf mem sh1 rf1 mem1 x A rp ms (altS ss n m y) ch ds lk ex ar (stG g (altC ss n m)) y (stZ y z (altC ss n m)))) := by
  refine gMet.mk (by decide) (by intro v hv; simp at hv; (try rcases hv with rfl | rfl | rfl) <;> rfl) (Nat.le_of_ble_eq_true rfl) (fun X hC hI => ?_)
  show gG X sh rf mem 0 0 0 [some (.ref x), some (.int (iI n)), some (.int (iI m)), none, none] []
  have hW9 := hW
  obtain ⟨⟨ho, r0, r1, r2, r3, r4, r5, r6⟩, ⟨hL, hLv⟩, hR, ⟨hCt, hCo, hCi, hCv⟩, ⟨hMo, hMv, hMl, hMk⟩, ⟨hEo, hEv⟩, ⟨hAo, hAv⟩, ⟨hSo, hS0, hS1, hS2, hSg, hSh, hSy⟩, hD, hG⟩ := hW
  have hLo := hL.1
  have hRo := hR.1
  have hTo := hCt.1
  have hMo1 := hMo.1
  have hEo1 := hEo.1
  have hAo1 := hAo.1
  have i_p := h_p
  obtain ⟨p1, p2⟩ := h_p
  have i_q := h_q
  obtain ⟨q1, q2⟩ := h_q
  have cle := altC_le (ss := ss) n m
  refine g_aload_n hC dX9_alter_0 rfl ?_
  refine g_getR hC fdX9_19 (by assumption) (by assumption) dX9_alter_1 ?_
  refine g_iload_n hC dX9_alter_4 rfl ?_
  refine g_iload_n hC dX9_alter_5 rfl ?_
  refine g_VP hC (kX7_alterCode (gl X) (gD X) (gac X) (A 4) (A 5) sa ra ss n m hR i_p i_q) cvX7_alterCode lkX9_160 (by assumption) rfl rfl (Nat.le_of_ble_eq_true rfl) (hI.fit (Nat.le_of_ble_eq_true rfl) (Nat.le_of_ble_eq_true rfl) (Nat.le_of_ble_eq_true rfl)) dX9_alter_6 (fun x6 hx6 => ?_)
  obtain rfl : x6 = altC ss n m := hx6
  refine g_istore_n hC 3 rfl dX9_alter_9 (Nat.le_of_ble_eq_true rfl) ?_
  dsimp only [List.set]
  refine g_aload_n hC dX9_alter_10 rfl ?_
  refine g_getR hC fdX9_19 (by assumption) (by assumption) dX9_alter_11 ?_
  refine g_iload_n hC dX9_alter_14 rfl ?_
  refine g_VR hC (kX7_at (gl X) (gD X) (gac X) (A 4) (A 5) sa ra ss n hR i_p) cvX7_at lkX9_147 (by assumption) rfl rfl (Nat.le_of_ble_eq_true rfl) (hI.fit (Nat.le_of_ble_eq_true rfl) (Nat.le_of_ble_eq_true rfl) (Nat.le_of_ble_eq_true rfl)) dX9_alter_15 (fun x15 hx15 => ?_)
  rcases e15 : setAt ss (n) with _ | y15
  · rw [e15] at hx15
    subst hx15
    refine g_astoreN hC dX9_alter_18 (Nat.le_of_ble_eq_true rfl) ?_
    dsimp only [List.set]
    refine g_aload_n hC dX9_alter_20 rfl ?_
    refine g_getR hC fdX9_50 (by assumption) (by assumption) dX9_alter_21 ?_
    refine g_iload_n hC dX9_alter_24 rfl ?_
    refine g_VM hC (kX8_carriesOut (gl X) (gD X) (gac X) (A 19) _ hSo ⟨by omega, by omega, by omega⟩ ⟨by omega, by omega⟩) cvX8_carriesOut lkX9_92 (by assumption) rfl rfl (Nat.le_of_ble_eq_true rfl) (hI.fit (Nat.le_of_ble_eq_true rfl) (Nat.le_of_ble_eq_true rfl) (Nat.le_of_ble_eq_true rfl)) dX9_alter_25 (fun x25 mem25 hx25 => ?_)
    obtain ⟨⟨hW2, hK2⟩, hr25⟩ := opStep hW9 cle.2 hx25
    have hR2 := hW2.2.2.1
    refine g_if_eq (tgt := 42) hC dX9_alter_28 (by decide) ⟨by omega, by omega⟩ (fun h28 => ?_) (fun h28 => ?_)
    · refine g_iload_n hC dX9_alter_42 rfl ?_
      refine g_iret hC hI rfl dX9_alter_43 (Nat.le_of_ble_eq_true rfl) (Nat.le_of_ble_eq_true rfl) ⟨_, rfl, ?_⟩
      first
      | (obtain ⟨k1, k2⟩ := RSs_set hR2 (y := (m, y15.2)) (setAt_some e15).2.2 hx39.1 hx39.2
         by_cases c0 : altC ss n m = 0
         · rw [altS_yes e15 ⟨q20.2.1, c0⟩]
           exact ⟨rfl, WN.of2 hK2 (opR hW2 k1 k2 (fun i hi => Or.inl ⟨i, (by rw [getD_setS (getD_lt (by rw [(setAt_some e15).2.2]; simp))] at hi; by_cases w : i = (n - 1).toNat; (rw [w, (setAt_some e15).2.2]; simp); (rw [if_neg w] at hi; exact hi)), rfl⟩))⟩
         · rw [altS_no (fun w => c0 w.2)]
           have w4 := q21.2 (q20.2.2.resolve_left c0)
           have w5 : (m, y15.2) = y15 := by rw [← w4]
           rw [w5, set_selfS (setAt_some e15).2.2] at k1
           exact ⟨rfl, WN.of2 hK2 (opR hW2 k1 k2 (fun i hi => Or.inl ⟨i, hi, rfl⟩))⟩)
      | (rw [altS_none e15]
         exact ⟨rfl, WN.of ⟨hW2, hK2⟩⟩)
      | (rw [altS_no (by
           rintro ⟨w1, w2⟩
           rcases hr25 with ⟨u1, u2⟩ | ⟨u1, u2⟩
           · omega
           · exact u2 ⟨by omega, w1, Or.inl w2⟩)]
         exact ⟨rfl, WN.of ⟨hW2, hK2⟩⟩)
    · refine g_aloadN hC dX9_alter_31 rfl ?_
      refine g_ifnullN (tgt := 42) hC dX9_alter_33 (by decide) ?_
      refine g_iload_n hC dX9_alter_42 rfl ?_
      refine g_iret hC hI rfl dX9_alter_43 (Nat.le_of_ble_eq_true rfl) (Nat.le_of_ble_eq_true rfl) ⟨_, rfl, ?_⟩
      first
      | (obtain ⟨k1, k2⟩ := RSs_set hR2 (y := (m, y15.2)) (setAt_some e15).2.2 hx39.1 hx39.2
         by_cases c0 : altC ss n m = 0
         · rw [altS_yes e15 ⟨q20.2.1, c0⟩]
           exact ⟨rfl, WN.of2 hK2 (opR hW2 k1 k2 (fun i hi => Or.inl ⟨i, (by rw [getD_setS (getD_lt (by rw [(setAt_some e15).2.2]; simp))] at hi; by_cases w : i = (n - 1).toNat; (rw [w, (setAt_some e15).2.2]; simp); (rw [if_neg w] at hi; exact hi)), rfl⟩))⟩
         · rw [altS_no (fun w => c0 w.2)]
           have w4 := q21.2 (q20.2.2.resolve_left c0)
           have w5 : (m, y15.2) = y15 := by rw [← w4]
           rw [w5, set_selfS (setAt_some e15).2.2] at k1
           exact ⟨rfl, WN.of2 hK2 (opR hW2 k1 k2 (fun i hi => Or.inl ⟨i, hi, rfl⟩))⟩)
      | (rw [altS_none e15]
         exact ⟨rfl, WN.of ⟨hW2, hK2⟩⟩)
      | (rw [altS_no (by
           rintro ⟨w1, w2⟩
           rcases hr25 with ⟨u1, u2⟩ | ⟨u1, u2⟩
           · omega
           · exact u2 ⟨by omega, w1, Or.inl w2⟩)]
         exact ⟨rfl, WN.of ⟨hW2, hK2⟩⟩)
  · rw [e15] at hx15
    subst hx15
    obtain ⟨O15, V15⟩ := RSs.at hR e15
    have o15 := O15.1
    refine g_astore hC dX9_alter_18 (Nat.le_of_ble_eq_true rfl) ?_
    dsimp only [List.set]
    refine g_aload_n hC dX9_alter_20 rfl ?_
    refine g_getR hC fdX9_50 (by assumption) (by assumption) dX9_alter_21 ?_
    refine g_iload_n hC dX9_alter_24 rfl ?_
    refine g_VM hC (kX8_carriesOut (gl X) (gD X) (gac X) (A 19) _ hSo ⟨by omega, by omega, by omega⟩ ⟨by omega, by omega⟩) cvX8_carriesOut lkX9_92 (by assumption) rfl rfl (Nat.le_of_ble_eq_true rfl) (hI.fit (Nat.le_of_ble_eq_true rfl) (Nat.le_of_ble_eq_true rfl) (Nat.le_of_ble_eq_true rfl)) dX9_alter_25 (fun x25 mem25 hx25 => ?_)
    obtain ⟨⟨hW2, hK2⟩, hr25⟩ := opStep hW9 cle.2 hx25
    have hR2 := hW2.2.2.1
    refine g_if_eq (tgt := 42) hC dX9_alter_28 (by decide) ⟨by omega, by omega⟩ (fun h28 => ?_) (fun h28 => ?_)
    · refine g_iload_n hC dX9_alter_42 rfl ?_
      refine g_iret hC hI rfl dX9_alter_43 (Nat.le_of_ble_eq_true rfl) (Nat.le_of_ble_eq_true rfl) ⟨_, rfl, ?_⟩
      first
      | (obtain ⟨k1, k2⟩ := RSs_set hR2 (y := (m, y15.2)) (setAt_some e15).2.2 hx39.1 hx39.2
         by_cases c0 : altC ss n m = 0
         · rw [altS_yes e15 ⟨q20.2.1, c0⟩]
           exact ⟨rfl, WN.of2 hK2 (opR hW2 k1 k2 (fun i hi => Or.inl ⟨i, (by rw [getD_setS (getD_lt (by rw [(setAt_some e15).2.2]; simp))] at hi; by_cases w : i = (n - 1).toNat; (rw [w, (setAt_some e15).2.2]; simp); (rw [if_neg w] at hi; exact hi)), rfl⟩))⟩
         · rw [altS_no (fun w => c0 w.2)]
           have w4 := q21.2 (q20.2.2.resolve_left c0)
           have w5 : (m, y15.2) = y15 := by rw [← w4]
           rw [w5, set_selfS (setAt_some e15).2.2] at k1
           exact ⟨rfl, WN.of2 hK2 (opR hW2 k1 k2 (fun i hi => Or.inl ⟨i, hi, rfl⟩))⟩)
      | (rw [altS_none e15]
         exact ⟨rfl, WN.of ⟨hW2, hK2⟩⟩)
      | (rw [altS_no (by
           rintro ⟨w1, w2⟩
           rcases hr25 with ⟨u1, u2⟩ | ⟨u1, u2⟩
           · omega
           · exact u2 ⟨by omega, w1, Or.inl w2⟩)]
         exact ⟨rfl, WN.of ⟨hW2, hK2⟩⟩)
    · refine g_aload hC dX9_alter_31 rfl ?_
      refine g_ifnullR hC dX9_alter_33 ?_
      have q20 : dz y (altC ss n m) := by
        rcases hr25 with ⟨-, w⟩ | ⟨w, -⟩
        · exact w
        · omega
      obtain ⟨O2, V2⟩ := RSs.at hR2 e15
      have q21 := altC_ok e15 q20.2.2
      refine g_aload hC dX9_alter_36 rfl ?_
      refine g_iload_n hC dX9_alter_38 rfl ?_
      refine g_VV hC (kX6_rename (gl X) (gD X) (gac X) _ _ y15.1 y15.2.1 y15.2.2.1 y15.2.2.2 m O2 V2 q21.1) cvX6_rename lkX9_163 (by assumption) rfl rfl (Nat.le_of_ble_eq_true rfl) (hI.fit (Nat.le_of_ble_eq_true rfl) (Nat.le_of_ble_eq_true rfl) (Nat.le_of_ble_eq_true rfl)) dX9_alter_39 (fun mem39 hx39 => ?_)
      refine g_iload_n hC dX9_alter_42 rfl ?_
      refine g_iret hC hI rfl dX9_alter_43 (Nat.le_of_ble_eq_true rfl) (Nat.le_of_ble_eq_true rfl) ⟨_, rfl, ?_⟩
      first
      | (obtain ⟨k1, k2⟩ := RSs_set hR2 (y := (m, y15.2)) (setAt_some e15).2.2 hx39.1 hx39.2
         by_cases c0 : altC ss n m = 0
         · rw [altS_yes e15 ⟨q20.2.1, c0⟩]
           exact ⟨rfl, WN.of2 hK2 (opR hW2 k1 k2 (fun i hi => Or.inl ⟨i, (by rw [getD_setS (getD_lt (by rw [(setAt_some e15).2.2]; simp))] at hi; by_cases w : i = (n - 1).toNat; (rw [w, (setAt_some e15).2.2]; simp); (rw [if_neg w] at hi; exact hi)), rfl⟩))⟩
         · rw [altS_no (fun w => c0 w.2)]
           have w4 := q21.2 (q20.2.2.resolve_left c0)
           have w5 : (m, y15.2) = y15 := by rw [← w4]
           rw [w5, set_selfS (setAt_some e15).2.2] at k1
           exact ⟨rfl, WN.of2 hK2 (opR hW2 k1 k2 (fun i hi => Or.inl ⟨i, hi, rfl⟩))⟩)
      | (rw [altS_none e15]
         exact ⟨rfl, WN.of ⟨hW2, hK2⟩⟩)
      | (rw [altS_no (by
           rintro ⟨w1, w2⟩
           rcases hr25 with ⟨u1, u2⟩ | ⟨u1, u2⟩
           · omega
           · exact u2 ⟨by omega, w1, Or.inl w2⟩)]
         exact ⟨rfl, WN.of ⟨hW2, hK2⟩⟩)
set_option maxHeartbeats 4000000 in
set_option maxRecDepth 100000 in
theorem kX9_repro (lc : Launch) (D : va_G) (ac : Nat → ClassId) {sh : Nat → Nat × Nat} {rf : Nat → Nat → Option Nat} {mem : Nat → Nat → Int} (G : Nat → Prop) (x : Nat) (A la l0 l1 l2 sa ra : Nat → Nat) (rp ex ar : List Int) (ms : List (Option MemT)) (ss : List (Option SetT)) (ch : Lns) (ds : Dfs) (lk : Nat) (g y z : Int) (f t : Int) (hW : WXa G sh rf mem x A la l0 l1 l2 sa ra rp ms ss ch ds lk ex ar g y z) (h_p : inR f) (h_q : inR t) : gMet lc D ac mX9_repro 6 [.ref x, .int (iI f), .int (iI t)] 0 0 sh rf mem (pA (fun r sh1 rf1 mem1 => r = repC ss f t ∧ WN G sh rf mem sh1 rf1 mem1 x A rp ms (repS ss f t y) ch ds lk ex ar (stG g (repC ss f t)) y (stZ y z (repC ss f t)))) := by
  refine gMet.mk (by decide) (by intro v hv; simp at hv; (try rcases hv with rfl | rfl | rfl) <;> rfl) (Nat.le_of_ble_eq_true rfl) (fun X hC hI => ?_)
  show gG X sh rf mem 0 0 0 [some (.ref x), some (.int (iI f)), some (.int (iI t)), none, none, none] []
  have hW9 := hW
  obtain ⟨⟨ho, r0, r1, r2, r3, r4, r5, r6⟩, ⟨hL, hLv⟩, hR, ⟨hCt, hCo, hCi, hCv⟩, ⟨hMo, hMv, hMl, hMk⟩, ⟨hEo, hEv⟩, ⟨hAo, hAv⟩, ⟨hSo, hS0, hS1, hS2, hSg, hSh, hSy⟩, hD, hG⟩ := hW
  have hLo := hL.1
  have hRo := hR.1
  have hTo := hCt.1
  have hMo1 := hMo.1
  have hEo1 := hEo.1
  have hAo1 := hAo.1
  have i_p := h_p
  obtain ⟨p1, p2⟩ := h_p
  have i_q := h_q
  obtain ⟨q1, q2⟩ := h_q
  have cle := repC_le (ss := ss) f t
  refine g_aload_n hC dX9_repro_0 rfl ?_
  refine g_getR hC fdX9_19 (by assumption) (by assumption) dX9_repro_1 ?_
  refine g_iload_n hC dX9_repro_4 rfl ?_
  refine g_iload_n hC dX9_repro_5 rfl ?_
  refine g_VP hC (kX7_reproCode (gl X) (gD X) (gac X) (A 4) (A 5) sa ra ss f t hR i_p i_q) cvX7_reproCode lkX9_166 (by assumption) rfl rfl (Nat.le_of_ble_eq_true rfl) (hI.fit (Nat.le_of_ble_eq_true rfl) (Nat.le_of_ble_eq_true rfl) (Nat.le_of_ble_eq_true rfl)) dX9_repro_6 (fun x6 hx6 => ?_)
  obtain rfl : x6 = repC ss f t := hx6
  refine g_istore_n hC 3 rfl dX9_repro_9 (Nat.le_of_ble_eq_true rfl) ?_
  dsimp only [List.set]
  refine g_aload_n hC dX9_repro_10 rfl ?_
  refine g_getR hC fdX9_19 (by assumption) (by assumption) dX9_repro_11 ?_
  refine g_iload_n hC dX9_repro_14 rfl ?_
  refine g_VR hC (kX7_at (gl X) (gD X) (gac X) (A 4) (A 5) sa ra ss f hR i_p) cvX7_at lkX9_147 (by assumption) rfl rfl (Nat.le_of_ble_eq_true rfl) (hI.fit (Nat.le_of_ble_eq_true rfl) (Nat.le_of_ble_eq_true rfl) (Nat.le_of_ble_eq_true rfl)) dX9_repro_15 (fun x15 hx15 => ?_)
  rcases e15 : setAt ss (f) with _ | y15
  · rw [e15] at hx15
    subst hx15
    refine g_astoreN hC dX9_repro_18 (Nat.le_of_ble_eq_true rfl) ?_
    dsimp only [List.set]
    refine g_aload_n hC dX9_repro_20 rfl ?_
    refine g_getR hC fdX9_19 (by assumption) (by assumption) dX9_repro_21 ?_
    refine g_iload_n hC dX9_repro_24 rfl ?_
    refine g_VR hC (kX7_at (gl X) (gD X) (gac X) (A 4) (A 5) sa ra ss t hR i_q) cvX7_at lkX9_147 (by assumption) rfl rfl (Nat.le_of_ble_eq_true rfl) (hI.fit (Nat.le_of_ble_eq_true rfl) (Nat.le_of_ble_eq_true rfl) (Nat.le_of_ble_eq_true rfl)) dX9_repro_25 (fun x25 hx25 => ?_)
    rcases e25 : setAt ss (t) with _ | y25
    · rw [e25] at hx25
      subst hx25
      refine g_astoreN hC dX9_repro_28 (Nat.le_of_ble_eq_true rfl) ?_
      dsimp only [List.set]
      refine g_aload_n hC dX9_repro_30 rfl ?_
      refine g_getR hC fdX9_50 (by assumption) (by assumption) dX9_repro_31 ?_
      refine g_iload_n hC dX9_repro_34 rfl ?_
      refine g_VM hC (kX8_carriesOut (gl X) (gD X) (gac X) (A 19) _ hSo ⟨by omega, by omega, by omega⟩ ⟨by omega, by omega⟩) cvX8_carriesOut lkX9_92 (by assumption) rfl rfl (Nat.le_of_ble_eq_true rfl) (hI.fit (Nat.le_of_ble_eq_true rfl) (Nat.le_of_ble_eq_true rfl) (Nat.le_of_ble_eq_true rfl)) dX9_repro_35 (fun x35 mem35 hx35 => ?_)
      obtain ⟨⟨hW2, hK2⟩, hr35⟩ := opStep hW9 cle.2 hx35
      have hR2 := hW2.2.2.1
      refine g_if_eq (tgt := 62) hC dX9_repro_38 (by decide) ⟨by omega, by omega⟩ (fun h38 => ?_) (fun h38 => ?_)
      · refine g_iload_n hC dX9_repro_62 rfl ?_
        refine g_iret hC hI rfl dX9_repro_63 (Nat.le_of_ble_eq_true rfl) (Nat.le_of_ble_eq_true rfl) ⟨_, rfl, ?_⟩
        first
        | (obtain ⟨k1, k2⟩ := RSs_set hR2 (y := (y25.1, y25.2.1, y25.2.2.1.take y25.2.2.2 ++ y15.2.2.1.take y15.2.2.2, y25.2.2.2 + y15.2.2.2)) w25.2.2 (hx59.1 (by omega)) hx59.2.2
           rw [repS_yes e15 e25 ⟨q20.2.1, by omega⟩]
           exact ⟨rfl, WN.of2 hK2 (opR hW2 k1 k2 (fun i hi => Or.inl ⟨i, (by rw [getD_setS (getD_lt (by rw [(setAt_some e25).2.2]; simp))] at hi; by_cases w : i = (t - 1).toNat; (rw [w, (setAt_some e25).2.2]; simp); (rw [if_neg w] at hi; exact hi)), rfl⟩))⟩)
        | (rw [repS_no (fun w => by have := repC_none1 (t := t) e15; omega)]
           exact ⟨rfl, WN.of ⟨hW2, hK2⟩⟩)
        | (rw [repS_no (fun w => by have := repC_none2 (f := f) e25; omega)]
           exact ⟨rfl, WN.of ⟨hW2, hK2⟩⟩)
        | (rw [repS_no (by
             rintro ⟨w1, w2⟩
             rcases hr35 with ⟨u1, u2⟩ | ⟨u1, u2⟩
             · omega
             · exact u2 ⟨by omega, w1, Or.inl w2⟩)]
           exact ⟨rfl, WN.of ⟨hW2, hK2⟩⟩)
      · refine g_iload_n hC dX9_repro_41 rfl ?_
        refine g_if_ne (tgt := 62) hC dX9_repro_42 (by decide) ⟨by omega, by omega⟩ (fun h42 => ?_) (fun h42 => ?_)
        · refine g_iload_n hC dX9_repro_62 rfl ?_
          refine g_iret hC hI rfl dX9_repro_63 (Nat.le_of_ble_eq_true rfl) (Nat.le_of_ble_eq_true rfl) ⟨_, rfl, ?_⟩
          first
          | (obtain ⟨k1, k2⟩ := RSs_set hR2 (y := (y25.1, y25.2.1, y25.2.2.1.take y25.2.2.2 ++ y15.2.2.1.take y15.2.2.2, y25.2.2.2 + y15.2.2.2)) w25.2.2 (hx59.1 (by omega)) hx59.2.2
             rw [repS_yes e15 e25 ⟨q20.2.1, by omega⟩]
             exact ⟨rfl, WN.of2 hK2 (opR hW2 k1 k2 (fun i hi => Or.inl ⟨i, (by rw [getD_setS (getD_lt (by rw [(setAt_some e25).2.2]; simp))] at hi; by_cases w : i = (t - 1).toNat; (rw [w, (setAt_some e25).2.2]; simp); (rw [if_neg w] at hi; exact hi)), rfl⟩))⟩)
          | (rw [repS_no (fun w => by have := repC_none1 (t := t) e15; omega)]
             exact ⟨rfl, WN.of ⟨hW2, hK2⟩⟩)
          | (rw [repS_no (fun w => by have := repC_none2 (f := f) e25; omega)]
             exact ⟨rfl, WN.of ⟨hW2, hK2⟩⟩)
          | (rw [repS_no (by
               rintro ⟨w1, w2⟩
               rcases hr35 with ⟨u1, u2⟩ | ⟨u1, u2⟩
               · omega
               · exact u2 ⟨by omega, w1, Or.inl w2⟩)]
             exact ⟨rfl, WN.of ⟨hW2, hK2⟩⟩)
        · refine g_aloadN hC dX9_repro_45 rfl ?_
          refine g_ifnullN (tgt := 62) hC dX9_repro_47 (by decide) ?_
          refine g_iload_n hC dX9_repro_62 rfl ?_
          refine g_iret hC hI rfl dX9_repro_63 (Nat.le_of_ble_eq_true rfl) (Nat.le_of_ble_eq_true rfl) ⟨_, rfl, ?_⟩
          first
          | (obtain ⟨k1, k2⟩ := RSs_set hR2 (y := (y25.1, y25.2.1, y25.2.2.1.take y25.2.2.2 ++ y15.2.2.1.take y15.2.2.2, y25.2.2.2 + y15.2.2.2)) w25.2.2 (hx59.1 (by omega)) hx59.2.2
             rw [repS_yes e15 e25 ⟨q20.2.1, by omega⟩]
             exact ⟨rfl, WN.of2 hK2 (opR hW2 k1 k2 (fun i hi => Or.inl ⟨i, (by rw [getD_setS (getD_lt (by rw [(setAt_some e25).2.2]; simp))] at hi; by_cases w : i = (t - 1).toNat; (rw [w, (setAt_some e25).2.2]; simp); (rw [if_neg w] at hi; exact hi)), rfl⟩))⟩)
          | (rw [repS_no (fun w => by have := repC_none1 (t := t) e15; omega)]
             exact ⟨rfl, WN.of ⟨hW2, hK2⟩⟩)
          | (rw [repS_no (fun w => by have := repC_none2 (f := f) e25; omega)]
             exact ⟨rfl, WN.of ⟨hW2, hK2⟩⟩)
          | (rw [repS_no (by
               rintro ⟨w1, w2⟩
               rcases hr35 with ⟨u1, u2⟩ | ⟨u1, u2⟩
               · omega
               · exact u2 ⟨by omega, w1, Or.inl w2⟩)]
             exact ⟨rfl, WN.of ⟨hW2, hK2⟩⟩)
    · rw [e25] at hx25
      subst hx25
      obtain ⟨O25, V25⟩ := RSs.at hR e25
      have o25 := O25.1
      refine g_astore hC dX9_repro_28 (Nat.le_of_ble_eq_true rfl) ?_
      dsimp only [List.set]
      refine g_aload_n hC dX9_repro_30 rfl ?_
      refine g_getR hC fdX9_50 (by assumption) (by assumption) dX9_repro_31 ?_
      refine g_iload_n hC dX9_repro_34 rfl ?_
      refine g_VM hC (kX8_carriesOut (gl X) (gD X) (gac X) (A 19) _ hSo ⟨by omega, by omega, by omega⟩ ⟨by omega, by omega⟩) cvX8_carriesOut lkX9_92 (by assumption) rfl rfl (Nat.le_of_ble_eq_true rfl) (hI.fit (Nat.le_of_ble_eq_true rfl) (Nat.le_of_ble_eq_true rfl) (Nat.le_of_ble_eq_true rfl)) dX9_repro_35 (fun x35 mem35 hx35 => ?_)
      obtain ⟨⟨hW2, hK2⟩, hr35⟩ := opStep hW9 cle.2 hx35
      have hR2 := hW2.2.2.1
      refine g_if_eq (tgt := 62) hC dX9_repro_38 (by decide) ⟨by omega, by omega⟩ (fun h38 => ?_) (fun h38 => ?_)
      · refine g_iload_n hC dX9_repro_62 rfl ?_
        refine g_iret hC hI rfl dX9_repro_63 (Nat.le_of_ble_eq_true rfl) (Nat.le_of_ble_eq_true rfl) ⟨_, rfl, ?_⟩
        first
        | (obtain ⟨k1, k2⟩ := RSs_set hR2 (y := (y25.1, y25.2.1, y25.2.2.1.take y25.2.2.2 ++ y15.2.2.1.take y15.2.2.2, y25.2.2.2 + y15.2.2.2)) w25.2.2 (hx59.1 (by omega)) hx59.2.2
           rw [repS_yes e15 e25 ⟨q20.2.1, by omega⟩]
           exact ⟨rfl, WN.of2 hK2 (opR hW2 k1 k2 (fun i hi => Or.inl ⟨i, (by rw [getD_setS (getD_lt (by rw [(setAt_some e25).2.2]; simp))] at hi; by_cases w : i = (t - 1).toNat; (rw [w, (setAt_some e25).2.2]; simp); (rw [if_neg w] at hi; exact hi)), rfl⟩))⟩)
        | (rw [repS_no (fun w => by have := repC_none1 (t := t) e15; omega)]
           exact ⟨rfl, WN.of ⟨hW2, hK2⟩⟩)
        | (rw [repS_no (fun w => by have := repC_none2 (f := f) e25; omega)]
           exact ⟨rfl, WN.of ⟨hW2, hK2⟩⟩)
        | (rw [repS_no (by
             rintro ⟨w1, w2⟩
             rcases hr35 with ⟨u1, u2⟩ | ⟨u1, u2⟩
             · omega
             · exact u2 ⟨by omega, w1, Or.inl w2⟩)]
           exact ⟨rfl, WN.of ⟨hW2, hK2⟩⟩)
      · refine g_iload_n hC dX9_repro_41 rfl ?_
        refine g_if_ne (tgt := 62) hC dX9_repro_42 (by decide) ⟨by omega, by omega⟩ (fun h42 => ?_) (fun h42 => ?_)
        · refine g_iload_n hC dX9_repro_62 rfl ?_
          refine g_iret hC hI rfl dX9_repro_63 (Nat.le_of_ble_eq_true rfl) (Nat.le_of_ble_eq_true rfl) ⟨_, rfl, ?_⟩
          first
          | (obtain ⟨k1, k2⟩ := RSs_set hR2 (y := (y25.1, y25.2.1, y25.2.2.1.take y25.2.2.2 ++ y15.2.2.1.take y15.2.2.2, y25.2.2.2 + y15.2.2.2)) w25.2.2 (hx59.1 (by omega)) hx59.2.2
             rw [repS_yes e15 e25 ⟨q20.2.1, by omega⟩]
             exact ⟨rfl, WN.of2 hK2 (opR hW2 k1 k2 (fun i hi => Or.inl ⟨i, (by rw [getD_setS (getD_lt (by rw [(setAt_some e25).2.2]; simp))] at hi; by_cases w : i = (t - 1).toNat; (rw [w, (setAt_some e25).2.2]; simp); (rw [if_neg w] at hi; exact hi)), rfl⟩))⟩)
          | (rw [repS_no (fun w => by have := repC_none1 (t := t) e15; omega)]
             exact ⟨rfl, WN.of ⟨hW2, hK2⟩⟩)
          | (rw [repS_no (fun w => by have := repC_none2 (f := f) e25; omega)]
             exact ⟨rfl, WN.of ⟨hW2, hK2⟩⟩)
          | (rw [repS_no (by
               rintro ⟨w1, w2⟩
               rcases hr35 with ⟨u1, u2⟩ | ⟨u1, u2⟩
               · omega
               · exact u2 ⟨by omega, w1, Or.inl w2⟩)]
             exact ⟨rfl, WN.of ⟨hW2, hK2⟩⟩)
        · refine g_aloadN hC dX9_repro_45 rfl ?_
          refine g_ifnullN (tgt := 62) hC dX9_repro_47 (by decide) ?_
          refine g_iload_n hC dX9_repro_62 rfl ?_
          refine g_iret hC hI rfl dX9_repro_63 (Nat.le_of_ble_eq_true rfl) (Nat.le_of_ble_eq_true rfl) ⟨_, rfl, ?_⟩
          first
          | (obtain ⟨k1, k2⟩ := RSs_set hR2 (y := (y25.1, y25.2.1, y25.2.2.1.take y25.2.2.2 ++ y15.2.2.1.take y15.2.2.2, y25.2.2.2 + y15.2.2.2)) w25.2.2 (hx59.1 (by omega)) hx59.2.2
             rw [repS_yes e15 e25 ⟨q20.2.1, by omega⟩]
             exact ⟨rfl, WN.of2 hK2 (opR hW2 k1 k2 (fun i hi => Or.inl ⟨i, (by rw [getD_setS (getD_lt (by rw [(setAt_some e25).2.2]; simp))] at hi; by_cases w : i = (t - 1).toNat; (rw [w, (setAt_some e25).2.2]; simp); (rw [if_neg w] at hi; exact hi)), rfl⟩))⟩)
          | (rw [repS_no (fun w => by have := repC_none1 (t := t) e15; omega)]
             exact ⟨rfl, WN.of ⟨hW2, hK2⟩⟩)
          | (rw [repS_no (fun w => by have := repC_none2 (f := f) e25; omega)]
             exact ⟨rfl, WN.of ⟨hW2, hK2⟩⟩)
          | (rw [repS_no (by
               rintro ⟨w1, w2⟩
               rcases hr35 with ⟨u1, u2⟩ | ⟨u1, u2⟩
               · omega
               · exact u2 ⟨by omega, w1, Or.inl w2⟩)]
             exact ⟨rfl, WN.of ⟨hW2, hK2⟩⟩)
  · rw [e15] at hx15
    subst hx15
    obtain ⟨O15, V15⟩ := RSs.at hR e15
    have o15 := O15.1
    refine g_astore hC dX9_repro_18 (Nat.le_of_ble_eq_true rfl) ?_
    dsimp only [List.set]
    refine g_aload_n hC dX9_repro_20 rfl ?_
    refine g_getR hC fdX9_19 (by assumption) (by assumption) dX9_repro_21 ?_
    refine g_iload_n hC dX9_repro_24 rfl ?_
    refine g_VR hC (kX7_at (gl X) (gD X) (gac X) (A 4) (A 5) sa ra ss t hR i_q) cvX7_at lkX9_147 (by assumption) rfl rfl (Nat.le_of_ble_eq_true rfl) (hI.fit (Nat.le_of_ble_eq_true rfl) (Nat.le_of_ble_eq_true rfl) (Nat.le_of_ble_eq_true rfl)) dX9_repro_25 (fun x25 hx25 => ?_)
    rcases e25 : setAt ss (t) with _ | y25
    · rw [e25] at hx25
      subst hx25
      refine g_astoreN hC dX9_repro_28 (Nat.le_of_ble_eq_true rfl) ?_
      dsimp only [List.set]
      refine g_aload_n hC dX9_repro_30 rfl ?_
      refine g_getR hC fdX9_50 (by assumption) (by assumption) dX9_repro_31 ?_
      refine g_iload_n hC dX9_repro_34 rfl ?_
      refine g_VM hC (kX8_carriesOut (gl X) (gD X) (gac X) (A 19) _ hSo ⟨by omega, by omega, by omega⟩ ⟨by omega, by omega⟩) cvX8_carriesOut lkX9_92 (by assumption) rfl rfl (Nat.le_of_ble_eq_true rfl) (hI.fit (Nat.le_of_ble_eq_true rfl) (Nat.le_of_ble_eq_true rfl) (Nat.le_of_ble_eq_true rfl)) dX9_repro_35 (fun x35 mem35 hx35 => ?_)
      obtain ⟨⟨hW2, hK2⟩, hr35⟩ := opStep hW9 cle.2 hx35
      have hR2 := hW2.2.2.1
      refine g_if_eq (tgt := 62) hC dX9_repro_38 (by decide) ⟨by omega, by omega⟩ (fun h38 => ?_) (fun h38 => ?_)
      · refine g_iload_n hC dX9_repro_62 rfl ?_
        refine g_iret hC hI rfl dX9_repro_63 (Nat.le_of_ble_eq_true rfl) (Nat.le_of_ble_eq_true rfl) ⟨_, rfl, ?_⟩
        first
        | (obtain ⟨k1, k2⟩ := RSs_set hR2 (y := (y25.1, y25.2.1, y25.2.2.1.take y25.2.2.2 ++ y15.2.2.1.take y15.2.2.2, y25.2.2.2 + y15.2.2.2)) w25.2.2 (hx59.1 (by omega)) hx59.2.2
           rw [repS_yes e15 e25 ⟨q20.2.1, by omega⟩]
           exact ⟨rfl, WN.of2 hK2 (opR hW2 k1 k2 (fun i hi => Or.inl ⟨i, (by rw [getD_setS (getD_lt (by rw [(setAt_some e25).2.2]; simp))] at hi; by_cases w : i = (t - 1).toNat; (rw [w, (setAt_some e25).2.2]; simp); (rw [if_neg w] at hi; exact hi)), rfl⟩))⟩)
        | (rw [repS_no (fun w => by have := repC_none1 (t := t) e15; omega)]
           exact ⟨rfl, WN.of ⟨hW2, hK2⟩⟩)
        | (rw [repS_no (fun w => by have := repC_none2 (f := f) e25; omega)]
           exact ⟨rfl, WN.of ⟨hW2, hK2⟩⟩)
        | (rw [repS_no (by
             rintro ⟨w1, w2⟩
             rcases hr35 with ⟨u1, u2⟩ | ⟨u1, u2⟩
             · omega
             · exact u2 ⟨by omega, w1, Or.inl w2⟩)]
           exact ⟨rfl, WN.of ⟨hW2, hK2⟩⟩)
      · refine g_iload_n hC dX9_repro_41 rfl ?_
        refine g_if_ne (tgt := 62) hC dX9_repro_42 (by decide) ⟨by omega, by omega⟩ (fun h42 => ?_) (fun h42 => ?_)
        · refine g_iload_n hC dX9_repro_62 rfl ?_
          refine g_iret hC hI rfl dX9_repro_63 (Nat.le_of_ble_eq_true rfl) (Nat.le_of_ble_eq_true rfl) ⟨_, rfl, ?_⟩
          first
          | (obtain ⟨k1, k2⟩ := RSs_set hR2 (y := (y25.1, y25.2.1, y25.2.2.1.take y25.2.2.2 ++ y15.2.2.1.take y15.2.2.2, y25.2.2.2 + y15.2.2.2)) w25.2.2 (hx59.1 (by omega)) hx59.2.2
             rw [repS_yes e15 e25 ⟨q20.2.1, by omega⟩]
             exact ⟨rfl, WN.of2 hK2 (opR hW2 k1 k2 (fun i hi => Or.inl ⟨i, (by rw [getD_setS (getD_lt (by rw [(setAt_some e25).2.2]; simp))] at hi; by_cases w : i = (t - 1).toNat; (rw [w, (setAt_some e25).2.2]; simp); (rw [if_neg w] at hi; exact hi)), rfl⟩))⟩)
          | (rw [repS_no (fun w => by have := repC_none1 (t := t) e15; omega)]
             exact ⟨rfl, WN.of ⟨hW2, hK2⟩⟩)
          | (rw [repS_no (fun w => by have := repC_none2 (f := f) e25; omega)]
             exact ⟨rfl, WN.of ⟨hW2, hK2⟩⟩)
          | (rw [repS_no (by
               rintro ⟨w1, w2⟩
               rcases hr35 with ⟨u1, u2⟩ | ⟨u1, u2⟩
               · omega
               · exact u2 ⟨by omega, w1, Or.inl w2⟩)]
             exact ⟨rfl, WN.of ⟨hW2, hK2⟩⟩)
        · refine g_aload hC dX9_repro_45 rfl ?_
          refine g_ifnullR hC dX9_repro_47 ?_
          refine g_aloadN hC dX9_repro_50 rfl ?_
          refine g_ifnullN (tgt := 62) hC dX9_repro_52 (by decide) ?_
          refine g_iload_n hC dX9_repro_62 rfl ?_
          refine g_iret hC hI rfl dX9_repro_63 (Nat.le_of_ble_eq_true rfl) (Nat.le_of_ble_eq_true rfl) ⟨_, rfl, ?_⟩
          first
          | (obtain ⟨k1, k2⟩ := RSs_set hR2 (y := (y25.1, y25.2.1, y25.2.2.1.take y25.2.2.2 ++ y15.2.2.1.take y15.2.2.2, y25.2.2.2 + y15.2.2.2)) w25.2.2 (hx59.1 (by omega)) hx59.2.2
             rw [repS_yes e15 e25 ⟨q20.2.1, by omega⟩]
             exact ⟨rfl, WN.of2 hK2 (opR hW2 k1 k2 (fun i hi => Or.inl ⟨i, (by rw [getD_setS (getD_lt (by rw [(setAt_some e25).2.2]; simp))] at hi; by_cases w : i = (t - 1).toNat; (rw [w, (setAt_some e25).2.2]; simp); (rw [if_neg w] at hi; exact hi)), rfl⟩))⟩)
          | (rw [repS_no (fun w => by have := repC_none1 (t := t) e15; omega)]
             exact ⟨rfl, WN.of ⟨hW2, hK2⟩⟩)
          | (rw [repS_no (fun w => by have := repC_none2 (f := f) e25; omega)]
             exact ⟨rfl, WN.of ⟨hW2, hK2⟩⟩)
          | (rw [repS_no (by
               rintro ⟨w1, w2⟩
               rcases hr35 with ⟨u1, u2⟩ | ⟨u1, u2⟩
               · omega
               · exact u2 ⟨by omega, w1, Or.inl w2⟩)]
             exact ⟨rfl, WN.of ⟨hW2, hK2⟩⟩)
    · rw [e25] at hx25
      subst hx25
      obtain ⟨O25, V25⟩ := RSs.at hR e25
      have o25 := O25.1
      refine g_astore hC dX9_repro_28 (Nat.le_of_ble_eq_true rfl) ?_
      dsimp only [List.set]
      refine g_aload_n hC dX9_repro_30 rfl ?_
      refine g_getR hC fdX9_50 (by assumption) (by assumption) dX9_repro_31 ?_
      refine g_iload_n hC dX9_repro_34 rfl ?_
      refine g_VM hC (kX8_carriesOut (gl X) (gD X) (gac X) (A 19) _ hSo ⟨by omega, by omega, by omega⟩ ⟨by omega, by omega⟩) cvX8_carriesOut lkX9_92 (by assumption) rfl rfl (Nat.le_of_ble_eq_true rfl) (hI.fit (Nat.le_of_ble_eq_true rfl) (Nat.le_of_ble_eq_true rfl) (Nat.le_of_ble_eq_true rfl)) dX9_repro_35 (fun x35 mem35 hx35 => ?_)
      obtain ⟨⟨hW2, hK2⟩, hr35⟩ := opStep hW9 cle.2 hx35
      have hR2 := hW2.2.2.1
      refine g_if_eq (tgt := 62) hC dX9_repro_38 (by decide) ⟨by omega, by omega⟩ (fun h38 => ?_) (fun h38 => ?_)
      · refine g_iload_n hC dX9_repro_62 rfl ?_
        refine g_iret hC hI rfl dX9_repro_63 (Nat.le_of_ble_eq_true rfl) (Nat.le_of_ble_eq_true rfl) ⟨_, rfl, ?_⟩
        first
        | (obtain ⟨k1, k2⟩ := RSs_set hR2 (y := (y25.1, y25.2.1, y25.2.2.1.take y25.2.2.2 ++ y15.2.2.1.take y15.2.2.2, y25.2.2.2 + y15.2.2.2)) w25.2.2 (hx59.1 (by omega)) hx59.2.2
           rw [repS_yes e15 e25 ⟨q20.2.1, by omega⟩]
           exact ⟨rfl, WN.of2 hK2 (opR hW2 k1 k2 (fun i hi => Or.inl ⟨i, (by rw [getD_setS (getD_lt (by rw [(setAt_some e25).2.2]; simp))] at hi; by_cases w : i = (t - 1).toNat; (rw [w, (setAt_some e25).2.2]; simp); (rw [if_neg w] at hi; exact hi)), rfl⟩))⟩)
        | (rw [repS_no (fun w => by have := repC_none1 (t := t) e15; omega)]
           exact ⟨rfl, WN.of ⟨hW2, hK2⟩⟩)
        | (rw [repS_no (fun w => by have := repC_none2 (f := f) e25; omega)]
           exact ⟨rfl, WN.of ⟨hW2, hK2⟩⟩)
        | (rw [repS_no (by
             rintro ⟨w1, w2⟩
             rcases hr35 with ⟨u1, u2⟩ | ⟨u1, u2⟩
             · omega
             · exact u2 ⟨by omega, w1, Or.inl w2⟩)]
           exact ⟨rfl, WN.of ⟨hW2, hK2⟩⟩)
      · refine g_iload_n hC dX9_repro_41 rfl ?_
        refine g_if_ne (tgt := 62) hC dX9_repro_42 (by decide) ⟨by omega, by omega⟩ (fun h42 => ?_) (fun h42 => ?_)
        · refine g_iload_n hC dX9_repro_62 rfl ?_
          refine g_iret hC hI rfl dX9_repro_63 (Nat.le_of_ble_eq_true rfl) (Nat.le_of_ble_eq_true rfl) ⟨_, rfl, ?_⟩
          first
          | (obtain ⟨k1, k2⟩ := RSs_set hR2 (y := (y25.1, y25.2.1, y25.2.2.1.take y25.2.2.2 ++ y15.2.2.1.take y15.2.2.2, y25.2.2.2 + y15.2.2.2)) w25.2.2 (hx59.1 (by omega)) hx59.2.2
             rw [repS_yes e15 e25 ⟨q20.2.1, by omega⟩]
             exact ⟨rfl, WN.of2 hK2 (opR hW2 k1 k2 (fun i hi => Or.inl ⟨i, (by rw [getD_setS (getD_lt (by rw [(setAt_some e25).2.2]; simp))] at hi; by_cases w : i = (t - 1).toNat; (rw [w, (setAt_some e25).2.2]; simp); (rw [if_neg w] at hi; exact hi)), rfl⟩))⟩)
          | (rw [repS_no (fun w => by have := repC_none1 (t := t) e15; omega)]
             exact ⟨rfl, WN.of ⟨hW2, hK2⟩⟩)
          | (rw [repS_no (fun w => by have := repC_none2 (f := f) e25; omega)]
             exact ⟨rfl, WN.of ⟨hW2, hK2⟩⟩)
          | (rw [repS_no (by
               rintro ⟨w1, w2⟩
               rcases hr35 with ⟨u1, u2⟩ | ⟨u1, u2⟩
               · omega
               · exact u2 ⟨by omega, w1, Or.inl w2⟩)]
             exact ⟨rfl, WN.of ⟨hW2, hK2⟩⟩)
        · refine g_aload hC dX9_repro_45 rfl ?_
          refine g_ifnullR hC dX9_repro_47 ?_
          refine g_aload hC dX9_repro_50 rfl ?_
          refine g_ifnullR hC dX9_repro_52 ?_
          have q20 : dz y (repC ss f t) := by
            rcases hr35 with ⟨-, w⟩ | ⟨w, -⟩
            · exact w
            · omega
          obtain ⟨O2, V2⟩ := RSs.at hR2 e15
          obtain ⟨O3, V3⟩ := RSs.at hR2 e25
          have q21 := repC_ok e15 e25 (by omega)
          have w15 := setAt_some e15
          have w25 := setAt_some e25
          refine g_aload hC dX9_repro_55 rfl ?_
          refine g_aload hC dX9_repro_57 rfl ?_
          refine g_VV hC (kX6_appendCounting (gl X) (gD X) (gac X) _ _ y25.1 y25.2.1 y25.2.2.1 y25.2.2.2 _ _ y15.1 y15.2.1 y15.2.2.1 y15.2.2.2 O3 V3 O2 V2 (hR.2.2.2.2.2.2 _ _ (by omega) (by omega) (by omega) (by rw [w25.2.2]; simp) (by rw [w15.2.2]; simp))) cvX6_appendCounting lkX9_169 (by assumption) rfl rfl (Nat.le_of_ble_eq_true rfl) (hI.fit (Nat.le_of_ble_eq_true rfl) (Nat.le_of_ble_eq_true rfl) (Nat.le_of_ble_eq_true rfl)) dX9_repro_59 (fun mem59 hx59 => ?_)
          refine g_iload_n hC dX9_repro_62 rfl ?_
          refine g_iret hC hI rfl dX9_repro_63 (Nat.le_of_ble_eq_true rfl) (Nat.le_of_ble_eq_true rfl) ⟨_, rfl, ?_⟩
          first
          | (obtain ⟨k1, k2⟩ := RSs_set hR2 (y := (y25.1, y25.2.1, y25.2.2.1.take y25.2.2.2 ++ y15.2.2.1.take y15.2.2.2, y25.2.2.2 + y15.2.2.2)) w25.2.2 (hx59.1 (by omega)) hx59.2.2
             rw [repS_yes e15 e25 ⟨q20.2.1, by omega⟩]
             exact ⟨rfl, WN.of2 hK2 (opR hW2 k1 k2 (fun i hi => Or.inl ⟨i, (by rw [getD_setS (getD_lt (by rw [(setAt_some e25).2.2]; simp))] at hi; by_cases w : i = (t - 1).toNat; (rw [w, (setAt_some e25).2.2]; simp); (rw [if_neg w] at hi; exact hi)), rfl⟩))⟩)
          | (rw [repS_no (fun w => by have := repC_none1 (t := t) e15; omega)]
             exact ⟨rfl, WN.of ⟨hW2, hK2⟩⟩)
          | (rw [repS_no (fun w => by have := repC_none2 (f := f) e25; omega)]
             exact ⟨rfl, WN.of ⟨hW2, hK2⟩⟩)
          | (rw [repS_no (by
               rintro ⟨w1, w2⟩
               rcases hr35 with ⟨u1, u2⟩ | ⟨u1, u2⟩
               · omega
               · exact u2 ⟨by omega, w1, Or.inl w2⟩)]
             exact ⟨rfl, WN.of ⟨hW2, hK2⟩⟩)
set_option maxHeartbeats 4000000 in
set_option maxRecDepth 100000 in
theorem kX9_generate (lc : Launch) (D : va_G) (ac : Nat → ClassId) {sh : Nat → Nat × Nat} {rf : Nat → Nat → Option Nat} {mem : Nat → Nat → Int} (G : Nat → Prop) (x : Nat) (A la l0 l1 l2 sa ra : Nat → Nat) (rp ex ar : List Int) (ms : List (Option MemT)) (ss : List (Option SetT)) (ch : Lns) (ds : Dfs) (lk : Nat) (g y z : Int) (n c v s : Int) (hW : WXa G sh rf mem x A la l0 l1 l2 sa ra rp ms ss ch ds lk ex ar g y z) (h_p : inR n) (h_q : inR c) : gMet lc D ac mX9_generate 6 [.ref x, .int (iI n), .int (iI c), .int (iI v), .int (iI s)] 0 0 sh rf mem (pA (fun r sh1 rf1 mem1 => r = genC ss n c ∧ WN G sh rf mem sh1 rf1 mem1 x A rp ms (genS ss n c v s y) ch ds lk ex ar (stG g (genC ss n c)) y (stZ y z (genC ss n c)))) := by
  refine gMet.mk (by decide) (by intro v hv; simp at hv; (try rcases hv with rfl | rfl | rfl | rfl | rfl) <;> rfl) (Nat.le_of_ble_eq_true rfl) (fun X hC hI => ?_)
  show gG X sh rf mem 0 0 0 [some (.ref x), some (.int (iI n)), some (.int (iI c)), some (.int (iI v)), some (.int (iI s)), none, none] []
  have hW9 := hW
  obtain ⟨⟨ho, r0, r1, r2, r3, r4, r5, r6⟩, ⟨hL, hLv⟩, hR, ⟨hCt, hCo, hCi, hCv⟩, ⟨hMo, hMv, hMl, hMk⟩, ⟨hEo, hEv⟩, ⟨hAo, hAv⟩, ⟨hSo, hS0, hS1, hS2, hSg, hSh, hSy⟩, hD, hG⟩ := hW
  have hLo := hL.1
  have hRo := hR.1
  have hTo := hCt.1
  have hMo1 := hMo.1
  have hEo1 := hEo.1
  have hAo1 := hAo.1
  have i_p := h_p
  obtain ⟨p1, p2⟩ := h_p
  have i_q := h_q
  obtain ⟨q1, q2⟩ := h_q
  have cle := genC_le (ss := ss) n c
  refine g_aload_n hC dX9_generate_0 rfl ?_
  refine g_getR hC fdX9_19 (by assumption) (by assumption) dX9_generate_1 ?_
  refine g_iload_n hC dX9_generate_4 rfl ?_
  refine g_iload_n hC dX9_generate_5 rfl ?_
  refine g_VP hC (kX7_generateCode (gl X) (gD X) (gac X) (A 4) (A 5) sa ra ss n c hR i_p i_q) cvX7_generateCode lkX9_173 (by assumption) rfl rfl (Nat.le_of_ble_eq_true rfl) (hI.fit (Nat.le_of_ble_eq_true rfl) (Nat.le_of_ble_eq_true rfl) (Nat.le_of_ble_eq_true rfl)) dX9_generate_6 (fun x6 hx6 => ?_)
  obtain rfl : x6 = genC ss n c := hx6
  refine g_istore hC dX9_generate_9 (Nat.le_of_ble_eq_true rfl) ?_
  dsimp only [List.set]
  refine g_aload_n hC dX9_generate_11 rfl ?_
  refine g_getR hC fdX9_19 (by assumption) (by assumption) dX9_generate_12 ?_
  refine g_iload_n hC dX9_generate_15 rfl ?_
  refine g_VR hC (kX7_at (gl X) (gD X) (gac X) (A 4) (A 5) sa ra ss n hR i_p) cvX7_at lkX9_147 (by assumption) rfl rfl (Nat.le_of_ble_eq_true rfl) (hI.fit (Nat.le_of_ble_eq_true rfl) (Nat.le_of_ble_eq_true rfl) (Nat.le_of_ble_eq_true rfl)) dX9_generate_16 (fun x16 hx16 => ?_)
  rcases e16 : setAt ss (n) with _ | y16
  · rw [e16] at hx16
    subst hx16
    refine g_astoreN hC dX9_generate_19 (Nat.le_of_ble_eq_true rfl) ?_
    dsimp only [List.set]
    refine g_aload_n hC dX9_generate_21 rfl ?_
    refine g_getR hC fdX9_50 (by assumption) (by assumption) dX9_generate_22 ?_
    refine g_iload hC dX9_generate_25 rfl ?_
    refine g_VM hC (kX8_carriesOut (gl X) (gD X) (gac X) (A 19) _ hSo ⟨by omega, by omega, by omega⟩ ⟨by omega, by omega⟩) cvX8_carriesOut lkX9_92 (by assumption) rfl rfl (Nat.le_of_ble_eq_true rfl) (hI.fit (Nat.le_of_ble_eq_true rfl) (Nat.le_of_ble_eq_true rfl) (Nat.le_of_ble_eq_true rfl)) dX9_generate_27 (fun x27 mem27 hx27 => ?_)
    obtain ⟨⟨hW2, hK2⟩, hr27⟩ := opStep hW9 cle.2 hx27
    have hR2 := hW2.2.2.1
    refine g_if_eq (tgt := 47) hC dX9_generate_30 (by decide) ⟨by omega, by omega⟩ (fun h30 => ?_) (fun h30 => ?_)
    · refine g_iload hC dX9_generate_47 rfl ?_
      refine g_iret hC hI rfl dX9_generate_49 (Nat.le_of_ble_eq_true rfl) (Nat.le_of_ble_eq_true rfl) ⟨_, rfl, ?_⟩
      first
      | (obtain ⟨k1, k2⟩ := RSs_set hR2 (y := (y16.1, y16.2.1, y16.2.2.1.take y16.2.2.2 ++ ser v s c.toNat, y16.2.2.2 + c.toNat)) (setAt_some e16).2.2 hx44.1 hx44.2
         rw [genS_yes e16 ⟨q20.2.1, q21.1⟩]
         exact ⟨rfl, WN.of2 hK2 (opR hW2 k1 k2 (fun i hi => Or.inl ⟨i, (by rw [getD_setS (getD_lt (by rw [(setAt_some e16).2.2]; simp))] at hi; by_cases w : i = (n - 1).toNat; (rw [w, (setAt_some e16).2.2]; simp); (rw [if_neg w] at hi; exact hi)), rfl⟩))⟩)
      | (rw [genS_no (fun w => by have := genC_none (c := c) e16; omega)]
         exact ⟨rfl, WN.of ⟨hW2, hK2⟩⟩)
      | (rw [genS_no (by
           rintro ⟨w1, w2⟩
           rcases hr27 with ⟨u1, u2⟩ | ⟨u1, u2⟩
           · omega
           · exact u2 ⟨by omega, w1, Or.inl w2⟩)]
         exact ⟨rfl, WN.of ⟨hW2, hK2⟩⟩)
    · refine g_aloadN hC dX9_generate_33 rfl ?_
      refine g_ifnullN (tgt := 47) hC dX9_generate_35 (by decide) ?_
      refine g_iload hC dX9_generate_47 rfl ?_
      refine g_iret hC hI rfl dX9_generate_49 (Nat.le_of_ble_eq_true rfl) (Nat.le_of_ble_eq_true rfl) ⟨_, rfl, ?_⟩
      first
      | (obtain ⟨k1, k2⟩ := RSs_set hR2 (y := (y16.1, y16.2.1, y16.2.2.1.take y16.2.2.2 ++ ser v s c.toNat, y16.2.2.2 + c.toNat)) (setAt_some e16).2.2 hx44.1 hx44.2
         rw [genS_yes e16 ⟨q20.2.1, q21.1⟩]
         exact ⟨rfl, WN.of2 hK2 (opR hW2 k1 k2 (fun i hi => Or.inl ⟨i, (by rw [getD_setS (getD_lt (by rw [(setAt_some e16).2.2]; simp))] at hi; by_cases w : i = (n - 1).toNat; (rw [w, (setAt_some e16).2.2]; simp); (rw [if_neg w] at hi; exact hi)), rfl⟩))⟩)
      | (rw [genS_no (fun w => by have := genC_none (c := c) e16; omega)]
         exact ⟨rfl, WN.of ⟨hW2, hK2⟩⟩)
      | (rw [genS_no (by
           rintro ⟨w1, w2⟩
           rcases hr27 with ⟨u1, u2⟩ | ⟨u1, u2⟩
           · omega
           · exact u2 ⟨by omega, w1, Or.inl w2⟩)]
         exact ⟨rfl, WN.of ⟨hW2, hK2⟩⟩)
  · rw [e16] at hx16
    subst hx16
    obtain ⟨O16, V16⟩ := RSs.at hR e16
    have o16 := O16.1
    refine g_astore hC dX9_generate_19 (Nat.le_of_ble_eq_true rfl) ?_
    dsimp only [List.set]
    refine g_aload_n hC dX9_generate_21 rfl ?_
    refine g_getR hC fdX9_50 (by assumption) (by assumption) dX9_generate_22 ?_
    refine g_iload hC dX9_generate_25 rfl ?_
    refine g_VM hC (kX8_carriesOut (gl X) (gD X) (gac X) (A 19) _ hSo ⟨by omega, by omega, by omega⟩ ⟨by omega, by omega⟩) cvX8_carriesOut lkX9_92 (by assumption) rfl rfl (Nat.le_of_ble_eq_true rfl) (hI.fit (Nat.le_of_ble_eq_true rfl) (Nat.le_of_ble_eq_true rfl) (Nat.le_of_ble_eq_true rfl)) dX9_generate_27 (fun x27 mem27 hx27 => ?_)
    obtain ⟨⟨hW2, hK2⟩, hr27⟩ := opStep hW9 cle.2 hx27
    have hR2 := hW2.2.2.1
    refine g_if_eq (tgt := 47) hC dX9_generate_30 (by decide) ⟨by omega, by omega⟩ (fun h30 => ?_) (fun h30 => ?_)
    · refine g_iload hC dX9_generate_47 rfl ?_
      refine g_iret hC hI rfl dX9_generate_49 (Nat.le_of_ble_eq_true rfl) (Nat.le_of_ble_eq_true rfl) ⟨_, rfl, ?_⟩
      first
      | (obtain ⟨k1, k2⟩ := RSs_set hR2 (y := (y16.1, y16.2.1, y16.2.2.1.take y16.2.2.2 ++ ser v s c.toNat, y16.2.2.2 + c.toNat)) (setAt_some e16).2.2 hx44.1 hx44.2
         rw [genS_yes e16 ⟨q20.2.1, q21.1⟩]
         exact ⟨rfl, WN.of2 hK2 (opR hW2 k1 k2 (fun i hi => Or.inl ⟨i, (by rw [getD_setS (getD_lt (by rw [(setAt_some e16).2.2]; simp))] at hi; by_cases w : i = (n - 1).toNat; (rw [w, (setAt_some e16).2.2]; simp); (rw [if_neg w] at hi; exact hi)), rfl⟩))⟩)
      | (rw [genS_no (fun w => by have := genC_none (c := c) e16; omega)]
         exact ⟨rfl, WN.of ⟨hW2, hK2⟩⟩)
      | (rw [genS_no (by
           rintro ⟨w1, w2⟩
           rcases hr27 with ⟨u1, u2⟩ | ⟨u1, u2⟩
           · omega
           · exact u2 ⟨by omega, w1, Or.inl w2⟩)]
         exact ⟨rfl, WN.of ⟨hW2, hK2⟩⟩)
    · refine g_aload hC dX9_generate_33 rfl ?_
      refine g_ifnullR hC dX9_generate_35 ?_
      have q20 : dz y (genC ss n c) := by
        rcases hr27 with ⟨-, w⟩ | ⟨w, -⟩
        · exact w
        · omega
      obtain ⟨O2, V2⟩ := RSs.at hR2 e16
      have q21 := genC_ok e16 q20.2.2
      refine g_aload hC dX9_generate_38 rfl ?_
      refine g_iload_n hC dX9_generate_40 rfl ?_
      refine g_iload_n hC dX9_generate_41 rfl ?_
      refine g_iload hC dX9_generate_42 rfl ?_
      refine g_VV hC (kX6_appendSeries (gl X) (gD X) (gac X) _ _ y16.1 y16.2.1 y16.2.2.1 y16.2.2.2 c v s O2 V2 q21.2) cvX6_appendSeries lkX9_176 (by assumption) rfl rfl (Nat.le_of_ble_eq_true rfl) (hI.fit (Nat.le_of_ble_eq_true rfl) (Nat.le_of_ble_eq_true rfl) (Nat.le_of_ble_eq_true rfl)) dX9_generate_44 (fun mem44 hx44 => ?_)
      refine g_iload hC dX9_generate_47 rfl ?_
      refine g_iret hC hI rfl dX9_generate_49 (Nat.le_of_ble_eq_true rfl) (Nat.le_of_ble_eq_true rfl) ⟨_, rfl, ?_⟩
      first
      | (obtain ⟨k1, k2⟩ := RSs_set hR2 (y := (y16.1, y16.2.1, y16.2.2.1.take y16.2.2.2 ++ ser v s c.toNat, y16.2.2.2 + c.toNat)) (setAt_some e16).2.2 hx44.1 hx44.2
         rw [genS_yes e16 ⟨q20.2.1, q21.1⟩]
         exact ⟨rfl, WN.of2 hK2 (opR hW2 k1 k2 (fun i hi => Or.inl ⟨i, (by rw [getD_setS (getD_lt (by rw [(setAt_some e16).2.2]; simp))] at hi; by_cases w : i = (n - 1).toNat; (rw [w, (setAt_some e16).2.2]; simp); (rw [if_neg w] at hi; exact hi)), rfl⟩))⟩)
      | (rw [genS_no (fun w => by have := genC_none (c := c) e16; omega)]
         exact ⟨rfl, WN.of ⟨hW2, hK2⟩⟩)
      | (rw [genS_no (by
           rintro ⟨w1, w2⟩
           rcases hr27 with ⟨u1, u2⟩ | ⟨u1, u2⟩
           · omega
           · exact u2 ⟨by omega, w1, Or.inl w2⟩)]
         exact ⟨rfl, WN.of ⟨hW2, hK2⟩⟩)
set_option maxHeartbeats 4000000 in
set_option maxRecDepth 100000 in
theorem kX9_verify (lc : Launch) (D : va_G) (ac : Nat → ClassId) {sh : Nat → Nat × Nat} {rf : Nat → Nat → Option Nat} {mem : Nat → Nat → Int} (G : Nat → Prop) (x : Nat) (A la l0 l1 l2 sa ra : Nat → Nat) (rp ex ar : List Int) (ms : List (Option MemT)) (ss : List (Option SetT)) (ch : Lns) (ds : Dfs) (lk : Nat) (g y z : Int) (n : Int) (hW : WXa G sh rf mem x A la l0 l1 l2 sa ra rp ms ss ch ds lk ex ar g y z) (h_p : inR n) : gMet lc D ac mX9_verify 6 [.ref x, .int (iI n)] 0 0 sh rf mem (pA (fun r sh1 rf1 mem1 => r = verC ss n ∧ WN G sh rf mem sh1 rf1 mem1 x A rp ms (verS ss n y) ch ds lk ex ar (stG g (verC ss n)) y (stZ y z (verC ss n)))) := by
  refine gMet.mk (by decide) (by intro v hv; simp at hv; (try rcases hv with rfl | rfl) <;> rfl) (Nat.le_of_ble_eq_true rfl) (fun X hC hI => ?_)
  show gG X sh rf mem 0 0 0 [some (.ref x), some (.int (iI n)), none, none] []
  have hW9 := hW
  obtain ⟨⟨ho, r0, r1, r2, r3, r4, r5, r6⟩, ⟨hL, hLv⟩, hR, ⟨hCt, hCo, hCi, hCv⟩, ⟨hMo, hMv, hMl, hMk⟩, ⟨hEo, hEv⟩, ⟨hAo, hAv⟩, ⟨hSo, hS0, hS1, hS2, hSg, hSh, hSy⟩, hD, hG⟩ := hW
  have hLo := hL.1
  have hRo := hR.1
  have hTo := hCt.1
  have hMo1 := hMo.1
  have hEo1 := hEo.1
  have hAo1 := hAo.1
  have i_p := h_p
  obtain ⟨p1, p2⟩ := h_p
  have cle := verC_le (ss := ss) n
  refine g_aload_n hC dX9_verify_0 rfl ?_
  refine g_getR hC fdX9_19 (by assumption) (by assumption) dX9_verify_1 ?_
  refine g_iload_n hC dX9_verify_4 rfl ?_
  refine g_VP hC (kX7_verifyCode (gl X) (gD X) (gac X) (A 4) (A 5) sa ra ss n hR i_p) cvX7_verifyCode lkX9_180 (by assumption) rfl rfl (Nat.le_of_ble_eq_true rfl) (hI.fit (Nat.le_of_ble_eq_true rfl) (Nat.le_of_ble_eq_true rfl) (Nat.le_of_ble_eq_true rfl)) dX9_verify_5 (fun x5 hx5 => ?_)
  obtain rfl : x5 = verC ss n := hx5
  refine g_istore_n hC 2 rfl dX9_verify_8 (Nat.le_of_ble_eq_true rfl) ?_
  dsimp only [List.set]
  refine g_aload_n hC dX9_verify_9 rfl ?_
  refine g_getR hC fdX9_19 (by assumption) (by assumption) dX9_verify_10 ?_
  refine g_iload_n hC dX9_verify_13 rfl ?_
  refine g_VR hC (kX7_at (gl X) (gD X) (gac X) (A 4) (A 5) sa ra ss n hR i_p) cvX7_at lkX9_147 (by assumption) rfl rfl (Nat.le_of_ble_eq_true rfl) (hI.fit (Nat.le_of_ble_eq_true rfl) (Nat.le_of_ble_eq_true rfl) (Nat.le_of_ble_eq_true rfl)) dX9_verify_14 (fun x14 hx14 => ?_)
  rcases e14 : setAt ss (n) with _ | y14
  · rw [e14] at hx14
    subst hx14
    refine g_astore_nN hC 3 rfl dX9_verify_17 (Nat.le_of_ble_eq_true rfl) ?_
    dsimp only [List.set]
    refine g_aload_n hC dX9_verify_18 rfl ?_
    refine g_getR hC fdX9_50 (by assumption) (by assumption) dX9_verify_19 ?_
    refine g_iload_n hC dX9_verify_22 rfl ?_
    refine g_VM hC (kX8_carriesOut (gl X) (gD X) (gac X) (A 19) _ hSo ⟨by omega, by omega, by omega⟩ ⟨by omega, by omega⟩) cvX8_carriesOut lkX9_92 (by assumption) rfl rfl (Nat.le_of_ble_eq_true rfl) (hI.fit (Nat.le_of_ble_eq_true rfl) (Nat.le_of_ble_eq_true rfl) (Nat.le_of_ble_eq_true rfl)) dX9_verify_23 (fun x23 mem23 hx23 => ?_)
    obtain ⟨⟨hW2, hK2⟩, hr23⟩ := opStep hW9 cle.2 hx23
    have hR2 := hW2.2.2.1
    refine g_if_eq (tgt := 37) hC dX9_verify_26 (by decide) ⟨by omega, by omega⟩ (fun h26 => ?_) (fun h26 => ?_)
    · refine g_iload_n hC dX9_verify_37 rfl ?_
      refine g_iret hC hI rfl dX9_verify_38 (Nat.le_of_ble_eq_true rfl) (Nat.le_of_ble_eq_true rfl) ⟨_, rfl, ?_⟩
      first
      | (obtain ⟨k1, k2⟩ := RSs_set hR2 (y := (y14.1, y14.2.1, y14.2.2.1, y14.2.2.1.length)) (setAt_some e14).2.2 hx34.1 hx34.2
         rw [verS_yes e14 q20.2.1]
         exact ⟨rfl, WN.of2 hK2 (opR hW2 k1 k2 (fun i hi => Or.inl ⟨i, (by rw [getD_setS (getD_lt (by rw [(setAt_some e14).2.2]; simp))] at hi; by_cases w : i = (n - 1).toNat; (rw [w, (setAt_some e14).2.2]; simp); (rw [if_neg w] at hi; exact hi)), rfl⟩))⟩)
      | (rw [verS_none e14]
         exact ⟨rfl, WN.of ⟨hW2, hK2⟩⟩)
      | (rw [verS_no (by
           intro w1
           have w2 := verC_04 e14
           rcases hr23 with ⟨u1, u2⟩ | ⟨u1, u2⟩
           · omega
           · exact u2 ⟨by omega, w1, w2⟩)]
         exact ⟨rfl, WN.of ⟨hW2, hK2⟩⟩)
    · refine g_aload_nN hC dX9_verify_29 rfl ?_
      refine g_ifnullN (tgt := 37) hC dX9_verify_30 (by decide) ?_
      refine g_iload_n hC dX9_verify_37 rfl ?_
      refine g_iret hC hI rfl dX9_verify_38 (Nat.le_of_ble_eq_true rfl) (Nat.le_of_ble_eq_true rfl) ⟨_, rfl, ?_⟩
      first
      | (obtain ⟨k1, k2⟩ := RSs_set hR2 (y := (y14.1, y14.2.1, y14.2.2.1, y14.2.2.1.length)) (setAt_some e14).2.2 hx34.1 hx34.2
         rw [verS_yes e14 q20.2.1]
         exact ⟨rfl, WN.of2 hK2 (opR hW2 k1 k2 (fun i hi => Or.inl ⟨i, (by rw [getD_setS (getD_lt (by rw [(setAt_some e14).2.2]; simp))] at hi; by_cases w : i = (n - 1).toNat; (rw [w, (setAt_some e14).2.2]; simp); (rw [if_neg w] at hi; exact hi)), rfl⟩))⟩)
      | (rw [verS_none e14]
         exact ⟨rfl, WN.of ⟨hW2, hK2⟩⟩)
      | (rw [verS_no (by
           intro w1
           have w2 := verC_04 e14
           rcases hr23 with ⟨u1, u2⟩ | ⟨u1, u2⟩
           · omega
           · exact u2 ⟨by omega, w1, w2⟩)]
         exact ⟨rfl, WN.of ⟨hW2, hK2⟩⟩)
  · rw [e14] at hx14
    subst hx14
    obtain ⟨O14, V14⟩ := RSs.at hR e14
    have o14 := O14.1
    refine g_astore_n hC 3 rfl dX9_verify_17 (Nat.le_of_ble_eq_true rfl) ?_
    dsimp only [List.set]
    refine g_aload_n hC dX9_verify_18 rfl ?_
    refine g_getR hC fdX9_50 (by assumption) (by assumption) dX9_verify_19 ?_
    refine g_iload_n hC dX9_verify_22 rfl ?_
    refine g_VM hC (kX8_carriesOut (gl X) (gD X) (gac X) (A 19) _ hSo ⟨by omega, by omega, by omega⟩ ⟨by omega, by omega⟩) cvX8_carriesOut lkX9_92 (by assumption) rfl rfl (Nat.le_of_ble_eq_true rfl) (hI.fit (Nat.le_of_ble_eq_true rfl) (Nat.le_of_ble_eq_true rfl) (Nat.le_of_ble_eq_true rfl)) dX9_verify_23 (fun x23 mem23 hx23 => ?_)
    obtain ⟨⟨hW2, hK2⟩, hr23⟩ := opStep hW9 cle.2 hx23
    have hR2 := hW2.2.2.1
    refine g_if_eq (tgt := 37) hC dX9_verify_26 (by decide) ⟨by omega, by omega⟩ (fun h26 => ?_) (fun h26 => ?_)
    · refine g_iload_n hC dX9_verify_37 rfl ?_
      refine g_iret hC hI rfl dX9_verify_38 (Nat.le_of_ble_eq_true rfl) (Nat.le_of_ble_eq_true rfl) ⟨_, rfl, ?_⟩
      first
      | (obtain ⟨k1, k2⟩ := RSs_set hR2 (y := (y14.1, y14.2.1, y14.2.2.1, y14.2.2.1.length)) (setAt_some e14).2.2 hx34.1 hx34.2
         rw [verS_yes e14 q20.2.1]
         exact ⟨rfl, WN.of2 hK2 (opR hW2 k1 k2 (fun i hi => Or.inl ⟨i, (by rw [getD_setS (getD_lt (by rw [(setAt_some e14).2.2]; simp))] at hi; by_cases w : i = (n - 1).toNat; (rw [w, (setAt_some e14).2.2]; simp); (rw [if_neg w] at hi; exact hi)), rfl⟩))⟩)
      | (rw [verS_none e14]
         exact ⟨rfl, WN.of ⟨hW2, hK2⟩⟩)
      | (rw [verS_no (by
           intro w1
           have w2 := verC_04 e14
           rcases hr23 with ⟨u1, u2⟩ | ⟨u1, u2⟩
           · omega
           · exact u2 ⟨by omega, w1, w2⟩)]
         exact ⟨rfl, WN.of ⟨hW2, hK2⟩⟩)
    · refine g_aload_n hC dX9_verify_29 rfl ?_
      refine g_ifnullR hC dX9_verify_30 ?_
      have q20 : dz y (verC ss n) := by
        rcases hr23 with ⟨-, w⟩ | ⟨w, -⟩
        · exact w
        · omega
      obtain ⟨O2, V2⟩ := RSs.at hR2 e14
      refine g_aload_n hC dX9_verify_33 rfl ?_
      refine g_VV hC (kX6_countAll (gl X) (gD X) (gac X) _ _ y14.1 y14.2.1 y14.2.2.1 y14.2.2.2 O2 V2) cvX6_countAll lkX9_183 (by assumption) rfl rfl (Nat.le_of_ble_eq_true rfl) (hI.fit (Nat.le_of_ble_eq_true rfl) (Nat.le_of_ble_eq_true rfl) (Nat.le_of_ble_eq_true rfl)) dX9_verify_34 (fun mem34 hx34 => ?_)
      refine g_iload_n hC dX9_verify_37 rfl ?_
      refine g_iret hC hI rfl dX9_verify_38 (Nat.le_of_ble_eq_true rfl) (Nat.le_of_ble_eq_true rfl) ⟨_, rfl, ?_⟩
      first
      | (obtain ⟨k1, k2⟩ := RSs_set hR2 (y := (y14.1, y14.2.1, y14.2.2.1, y14.2.2.1.length)) (setAt_some e14).2.2 hx34.1 hx34.2
         rw [verS_yes e14 q20.2.1]
         exact ⟨rfl, WN.of2 hK2 (opR hW2 k1 k2 (fun i hi => Or.inl ⟨i, (by rw [getD_setS (getD_lt (by rw [(setAt_some e14).2.2]; simp))] at hi; by_cases w : i = (n - 1).toNat; (rw [w, (setAt_some e14).2.2]; simp); (rw [if_neg w] at hi; exact hi)), rfl⟩))⟩)
      | (rw [verS_none e14]
         exact ⟨rfl, WN.of ⟨hW2, hK2⟩⟩)
      | (rw [verS_no (by
           intro w1
           have w2 := verC_04 e14
           rcases hr23 with ⟨u1, u2⟩ | ⟨u1, u2⟩
           · omega
           · exact u2 ⟨by omega, w1, w2⟩)]
         exact ⟨rfl, WN.of ⟨hW2, hK2⟩⟩)
set_option maxHeartbeats 4000000 in
set_option maxRecDepth 100000 in
theorem kX9_export0 (lc : Launch) (D : va_G) (ac : Nat → ClassId) {sh : Nat → Nat × Nat} {rf : Nat → Nat → Option Nat} {mem : Nat → Nat → Int} (G : Nat → Prop) (x : Nat) (A la l0 l1 l2 sa ra : Nat → Nat) (rp ex ar : List Int) (ms : List (Option MemT)) (ss : List (Option SetT)) (ch : Lns) (ds : Dfs) (lk : Nat) (g y z : Int) (n : Int) (hW : WXa G sh rf mem x A la l0 l1 l2 sa ra rp ms ss ch ds lk ex ar g y z) (h_p : inR n) : gMet lc D ac mX9_export0 6 [.ref x, .int (iI n)] 0 0 sh rf mem (pA (fun r sh1 rf1 mem1 => r = expR ss n ∧ WN G sh rf mem sh1 rf1 mem1 x A rp ms ss ch ds lk (expS ss ex n) ar g y z)) := by
  refine gMet.mk (by decide) (by intro v hv; simp at hv; (try rcases hv with rfl | rfl) <;> rfl) (Nat.le_of_ble_eq_true rfl) (fun X hC hI => ?_)
  show gG X sh rf mem 0 0 0 [some (.ref x), some (.int (iI n)), none] []
  have hW9 := hW
  obtain ⟨⟨ho, r0, r1, r2, r3, r4, r5, r6⟩, ⟨hL, hLv⟩, hR, ⟨hCt, hCo, hCi, hCv⟩, ⟨hMo, hMv, hMl, hMk⟩, ⟨hEo, hEv⟩, ⟨hAo, hAv⟩, ⟨hSo, hS0, hS1, hS2, hSg, hSh, hSy⟩, hD, hG⟩ := hW
  have hLo := hL.1
  have hRo := hR.1
  have hTo := hCt.1
  have hMo1 := hMo.1
  have hEo1 := hEo.1
  have hAo1 := hAo.1
  have i_p := h_p
  obtain ⟨p1, p2⟩ := h_p
  refine g_aload_n hC dX9_export0_0 rfl ?_
  refine g_getR hC fdX9_19 (by assumption) (by assumption) dX9_export0_1 ?_
  refine g_iload_n hC dX9_export0_4 rfl ?_
  refine g_VR hC (kX7_at (gl X) (gD X) (gac X) (A 4) (A 5) sa ra ss n hR i_p) cvX7_at lkX9_147 (by assumption) rfl rfl (Nat.le_of_ble_eq_true rfl) (hI.fit (Nat.le_of_ble_eq_true rfl) (Nat.le_of_ble_eq_true rfl) (Nat.le_of_ble_eq_true rfl)) dX9_export0_5 (fun x5 hx5 => ?_)
  rcases e5 : setAt ss (n) with _ | y5
  · rw [e5] at hx5
    subst hx5
    refine g_astore_nN hC 2 rfl dX9_export0_8 (Nat.le_of_ble_eq_true rfl) ?_
    dsimp only [List.set]
    refine g_aload_nN hC dX9_export0_9 rfl ?_
    refine g_ifnonnullN hC dX9_export0_10 ?_
    refine g_bipush hC dX9_export0_13 (by decide +kernel) ?_
    refine g_iret hC hI rfl dX9_export0_15 (Nat.le_of_ble_eq_true rfl) (Nat.le_of_ble_eq_true rfl) ⟨_, rfl, ?_⟩
    have u1 : expR ss n = -2 := by rw [expR, e5]
    have u2 : expS ss ex n = ex := by rw [expS, e5]
    rw [u1, u2]
    exact ⟨rfl, WN.of ⟨hW9, fun b hb => Un.rf0⟩⟩
  · rw [e5] at hx5
    subst hx5
    obtain ⟨O5, V5⟩ := RSs.at hR e5
    have o5 := O5.1
    refine g_astore_n hC 2 rfl dX9_export0_8 (Nat.le_of_ble_eq_true rfl) ?_
    dsimp only [List.set]
    refine g_aload_n hC dX9_export0_9 rfl ?_
    refine g_ifnonnullR (tgt := 16) hC dX9_export0_10 (by decide) ?_
    refine g_aload_n hC dX9_export0_16 rfl ?_
    refine g_aload_n hC dX9_export0_17 rfl ?_
    refine g_getR hC fdX9_40 (by assumption) (by assumption) dX9_export0_18 ?_
    refine g_VV hC (kX6_writeTo (gl X) (gD X) (gac X) _ _ y5.1 y5.2.1 y5.2.2.1 y5.2.2.2 (A 15) (A 16) ex O5 V5 hEo hEv) cvX6_writeTo lkX9_186 (by assumption) rfl rfl (Nat.le_of_ble_eq_true rfl) (hI.fit (Nat.le_of_ble_eq_true rfl) (Nat.le_of_ble_eq_true rfl) (Nat.le_of_ble_eq_true rfl)) dX9_export0_21 (fun mem21 hx21 => ?_)
    refine g_aload_n hC dX9_export0_24 rfl ?_
    refine g_getR hC fdX9_40 (by assumption) (by assumption) dX9_export0_25 ?_
    refine g_VP hC (kX5_size (gl X) (gD X) (gac X) (A 15) (A 16) _ hEo hx21.1) cvX5_size lkX9_190 (by assumption) rfl rfl (Nat.le_of_ble_eq_true rfl) (hI.fit (Nat.le_of_ble_eq_true rfl) (Nat.le_of_ble_eq_true rfl) (Nat.le_of_ble_eq_true rfl)) dX9_export0_28 (fun x28 hx28 => ?_)
    refine g_iret hC hI rfl dX9_export0_31 (Nat.le_of_ble_eq_true rfl) (Nat.le_of_ble_eq_true rfl) ⟨_, rfl, ?_⟩
    have u1 : expR ss n = (expo y5.1 y5.2.1 y5.2.2.1 y5.2.2.2).length := by rw [expR, e5]
    have u2 : expS ss ex n = expo y5.1 y5.2.1 y5.2.2.1 y5.2.2.2 := by rw [expS, e5]
    rw [u1, u2]
    exact ⟨hx28, WN.of (opE hW9 hx21.1 hx21.2)⟩
set_option maxHeartbeats 4000000 in
set_option maxRecDepth 100000 in
theorem kX9_dump (lc : Launch) (D : va_G) (ac : Nat → ClassId) {sh : Nat → Nat × Nat} {rf : Nat → Nat → Option Nat} {mem : Nat → Nat → Int} (G : Nat → Prop) (x : Nat) (A la l0 l1 l2 sa ra : Nat → Nat) (rp ex ar : List Int) (ms : List (Option MemT)) (ss : List (Option SetT)) (ch : Lns) (ds : Dfs) (lk : Nat) (g y z : Int) (i k : Int) (hW : WXa G sh rf mem x A la l0 l1 l2 sa ra rp ms ss ch ds lk ex ar g y z) (h_p : inR i) (h_q : inR k) (h4 : ex.length % 4 = 0) : gMet lc D ac mX9_dump 6 [.ref x, .int (iI i), .int (iI k)] 0 0 sh rf mem (pP sh rf mem (fun r => r = dumpS ex i k)) := by
  refine gMet.mk (by decide) (by intro v hv; simp at hv; (try rcases hv with rfl | rfl | rfl) <;> rfl) (Nat.le_of_ble_eq_true rfl) (fun X hC hI => ?_)
  show gG X sh rf mem 0 0 0 [some (.ref x), some (.int (iI i)), some (.int (iI k))] []
  have hW9 := hW
  obtain ⟨⟨ho, r0, r1, r2, r3, r4, r5, r6⟩, ⟨hL, hLv⟩, hR, ⟨hCt, hCo, hCi, hCv⟩, ⟨hMo, hMv, hMl, hMk⟩, ⟨hEo, hEv⟩, ⟨hAo, hAv⟩, ⟨hSo, hS0, hS1, hS2, hSg, hSh, hSy⟩, hD, hG⟩ := hW
  have hLo := hL.1
  have hRo := hR.1
  have hTo := hCt.1
  have hMo1 := hMo.1
  have hEo1 := hEo.1
  have hAo1 := hAo.1
  refine g_aload_n hC dX9_dump_0 rfl ?_
  refine g_getR hC fdX9_40 (by assumption) (by assumption) dX9_dump_1 ?_
  refine g_iload_n hC dX9_dump_4 rfl ?_
  refine g_iload_n hC dX9_dump_5 rfl ?_
  refine g_SP hC (kX2_signAt (gl X) (gD X) (gac X) (A 15) (A 16) ex i k hEo hEv h4 h_p h_q) csX2_signAt lkX9_216 rfl rfl (Nat.le_of_ble_eq_true rfl) (hI.fit (Nat.le_of_ble_eq_true rfl) (Nat.le_of_ble_eq_true rfl) (Nat.le_of_ble_eq_true rfl)) dX9_dump_6 (fun x6 hx6 => ?_)
  refine g_iret hC hI rfl dX9_dump_9 (Nat.le_of_ble_eq_true rfl) (Nat.le_of_ble_eq_true rfl) ⟨rfl, rfl, rfl, _, rfl, ?_⟩
  exact hx6
set_option maxHeartbeats 4000000 in
set_option maxRecDepth 100000 in
theorem kX9_dry (lc : Launch) (D : va_G) (ac : Nat → ClassId) {sh : Nat → Nat × Nat} {rf : Nat → Nat → Option Nat} {mem : Nat → Nat → Int} (G : Nat → Prop) (x : Nat) (A la l0 l1 l2 sa ra : Nat → Nat) (rp ex ar : List Int) (ms : List (Option MemT)) (ss : List (Option SetT)) (ch : Lns) (ds : Dfs) (lk : Nat) (g y z : Int) (v : Int) (hW : WXa G sh rf mem x A la l0 l1 l2 sa ra rp ms ss ch ds lk ex ar g y z) (hp : v = 0 ∨ v = 1) : gMet lc D ac mX9_dry 6 [.ref x, .int (iI v)] 0 0 sh rf mem (pA (fun r sh1 rf1 mem1 => r = z ∧ WN G sh rf mem sh1 rf1 mem1 x A rp ms ss ch ds lk ex ar g v z)) := by
  refine gMet.mk (by decide) (by intro v hv; simp at hv; (try rcases hv with rfl | rfl) <;> rfl) (Nat.le_of_ble_eq_true rfl) (fun X hC hI => ?_)
  show gG X sh rf mem 0 0 0 [some (.ref x), some (.int (iI v))] []
  have hW9 := hW
  obtain ⟨⟨ho, r0, r1, r2, r3, r4, r5, r6⟩, ⟨hL, hLv⟩, hR, ⟨hCt, hCo, hCi, hCv⟩, ⟨hMo, hMv, hMl, hMk⟩, ⟨hEo, hEv⟩, ⟨hAo, hAv⟩, ⟨hSo, hS0, hS1, hS2, hSg, hSh, hSy⟩, hD, hG⟩ := hW
  have hLo := hL.1
  have hRo := hR.1
  have hTo := hCt.1
  have hMo1 := hMo.1
  have hEo1 := hEo.1
  have hAo1 := hAo.1
  refine g_aload_n hC dX9_dry_0 rfl ?_
  refine g_getR hC fdX9_50 (by assumption) (by assumption) dX9_dry_1 ?_
  refine g_iload_n hC dX9_dry_4 rfl ?_
  refine g_VM hC (kX8_turnDry (gl X) (gD X) (gac X) (A 19) v hSo hp) cvX8_turnDry lkX9_222 (by assumption) rfl rfl (Nat.le_of_ble_eq_true rfl) (hI.fit (Nat.le_of_ble_eq_true rfl) (Nat.le_of_ble_eq_true rfl) (Nat.le_of_ble_eq_true rfl)) dX9_dry_5 (fun x5 mem5 hx5 => ?_)
  refine g_iret hC hI rfl dX9_dry_8 (Nat.le_of_ble_eq_true rfl) (Nat.le_of_ble_eq_true rfl) ⟨_, rfl, ?_⟩
  obtain ⟨c1, c2⟩ := hx5
  refine ⟨by rw [c1]; exact hS2, WN.of (opS hW9 ⟨hSo, ?_, ?_, ?_, hSg, hSh, hp⟩ (fun b hb => ?_))⟩
  · rw [c2, gup_k _ _ _ _ (by decide)]; exact hS0
  · rw [c2, gup_s]
  · rw [c2, gup_k _ _ _ _ (by decide)]; exact hS2
  · rw [c2]; funext j; rw [gup_a _ _ _ _ hb]
set_option maxHeartbeats 4000000 in
set_option maxRecDepth 100000 in
theorem kX9_greatest (lc : Launch) (D : va_G) (ac : Nat → ClassId) {sh : Nat → Nat × Nat} {rf : Nat → Nat → Option Nat} {mem : Nat → Nat → Int} (G : Nat → Prop) (x : Nat) (A la l0 l1 l2 sa ra : Nat → Nat) (rp ex ar : List Int) (ms : List (Option MemT)) (ss : List (Option SetT)) (ch : Lns) (ds : Dfs) (lk : Nat) (g y z : Int) (hW : WXa G sh rf mem x A la l0 l1 l2 sa ra rp ms ss ch ds lk ex ar g y z) : gMet lc D ac mX9_greatest 6 [.ref x] 0 0 sh rf mem (pP sh rf mem (fun r => r = g)) := by
  refine gMet.mk (by decide) (by intro v hv; simp at hv; (try rcases hv with rfl) <;> rfl) (Nat.le_of_ble_eq_true rfl) (fun X hC hI => ?_)
  show gG X sh rf mem 0 0 0 [some (.ref x)] []
  have hW9 := hW
  obtain ⟨⟨ho, r0, r1, r2, r3, r4, r5, r6⟩, ⟨hL, hLv⟩, hR, ⟨hCt, hCo, hCi, hCv⟩, ⟨hMo, hMv, hMl, hMk⟩, ⟨hEo, hEv⟩, ⟨hAo, hAv⟩, ⟨hSo, hS0, hS1, hS2, hSg, hSh, hSy⟩, hD, hG⟩ := hW
  have hLo := hL.1
  have hRo := hR.1
  have hTo := hCt.1
  have hMo1 := hMo.1
  have hEo1 := hEo.1
  have hAo1 := hAo.1
  refine g_aload_n hC dX9_greatest_0 rfl ?_
  refine g_getR hC fdX9_50 (by assumption) (by assumption) dX9_greatest_1 ?_
  refine g_VP hC (kX8_greatestCode (gl X) (gD X) (gac X) (A 19) hSo) cvX8_greatestCode lkX9_225 (by assumption) rfl rfl (Nat.le_of_ble_eq_true rfl) (hI.fit (Nat.le_of_ble_eq_true rfl) (Nat.le_of_ble_eq_true rfl) (Nat.le_of_ble_eq_true rfl)) dX9_greatest_4 (fun x4 hx4 => ?_)
  refine g_iret hC hI rfl dX9_greatest_7 (Nat.le_of_ble_eq_true rfl) (Nat.le_of_ble_eq_true rfl) ⟨rfl, rfl, rfl, _, rfl, ?_⟩
  rw [hx4]; exact hS0
set_option maxHeartbeats 4000000 in
set_option maxRecDepth 100000 in
theorem kX9_step (lc : Launch) (D : va_G) (ac : Nat → ClassId) {sh : Nat → Nat × Nat} {rf : Nat → Nat → Option Nat} {mem : Nat → Nat → Int} (G : Nat → Prop) (x : Nat) (A la l0 l1 l2 sa ra : Nat → Nat) (rp ex ar : List Int) (ms : List (Option MemT)) (ss : List (Option SetT)) (ch : Lns) (ds : Dfs) (lk : Nat) (g y z : Int) (hW : WXa G sh rf mem x A la l0 l1 l2 sa ra rp ms ss ch ds lk ex ar g y z) : gMet lc D ac mX9_step 6 [.ref x] 0 0 sh rf mem (pA (fun r sh1 rf1 mem1 => r = g ∧ WN G sh rf mem sh1 rf1 mem1 x A rp ms ss ch ds lk ex ar 0 y z)) := by
  refine gMet.mk (by decide) (by intro v hv; simp at hv; (try rcases hv with rfl) <;> rfl) (Nat.le_of_ble_eq_true rfl) (fun X hC hI => ?_)
  show gG X sh rf mem 0 0 0 [some (.ref x)] []
  have hW9 := hW
  obtain ⟨⟨ho, r0, r1, r2, r3, r4, r5, r6⟩, ⟨hL, hLv⟩, hR, ⟨hCt, hCo, hCi, hCv⟩, ⟨hMo, hMv, hMl, hMk⟩, ⟨hEo, hEv⟩, ⟨hAo, hAv⟩, ⟨hSo, hS0, hS1, hS2, hSg, hSh, hSy⟩, hD, hG⟩ := hW
  have hLo := hL.1
  have hRo := hR.1
  have hTo := hCt.1
  have hMo1 := hMo.1
  have hEo1 := hEo.1
  have hAo1 := hAo.1
  refine g_aload_n hC dX9_step_0 rfl ?_
  refine g_getR hC fdX9_50 (by assumption) (by assumption) dX9_step_1 ?_
  refine g_VM hC (kX8_beginAnew (gl X) (gD X) (gac X) (A 19) hSo) cvX8_beginAnew lkX9_228 (by assumption) rfl rfl (Nat.le_of_ble_eq_true rfl) (hI.fit (Nat.le_of_ble_eq_true rfl) (Nat.le_of_ble_eq_true rfl) (Nat.le_of_ble_eq_true rfl)) dX9_step_4 (fun x4 mem4 hx4 => ?_)
  refine g_iret hC hI rfl dX9_step_7 (Nat.le_of_ble_eq_true rfl) (Nat.le_of_ble_eq_true rfl) ⟨_, rfl, ?_⟩
  obtain ⟨c1, c2⟩ := hx4
  refine ⟨by rw [c1]; exact hS0, WN.of (opS hW9 ⟨hSo, ?_, ?_, ?_, by decide, by decide, hSy⟩ (fun b hb => ?_))⟩
  · rw [c2, gup_s]
  · rw [c2, gup_k _ _ _ _ (by decide)]; exact hS1
  · rw [c2, gup_k _ _ _ _ (by decide)]; exact hS2
  · rw [c2]; funext j; rw [gup_a _ _ _ _ hb]
set_option maxHeartbeats 4000000 in
set_option maxRecDepth 100000 in
theorem kX9_find (lc : Launch) (D : va_G) (ac : Nat → ClassId) {sh : Nat → Nat × Nat} {rf : Nat → Nat → Option Nat} {mem : Nat → Nat → Int} (G : Nat → Prop) (x : Nat) (A la l0 l1 l2 sa ra : Nat → Nat) (rp ex ar : List Int) (ms : List (Option MemT)) (ss : List (Option SetT)) (ch : Lns) (ds : Dfs) (lk : Nat) (g y z : Int) (l n : Int) (hW : WXa G sh rf mem x A la l0 l1 l2 sa ra rp ms ss ch ds lk ex ar g y z) (h_p : inR l) (h_q : inR n) : gMet lc D ac mX9_find 6 [.ref x, .int (iI l), .int (iI n)] 0 0 sh rf mem (pP sh rf mem (fun r => r = findR rp ms l n)) := by
  refine gMet.mk (by decide) (by intro v hv; simp at hv; (try rcases hv with rfl | rfl | rfl) <;> rfl) (Nat.le_of_ble_eq_true rfl) (fun X hC hI => ?_)
  show gG X sh rf mem 0 0 0 [some (.ref x), some (.int (iI l)), some (.int (iI n))] []
  have hW9 := hW
  obtain ⟨⟨ho, r0, r1, r2, r3, r4, r5, r6⟩, ⟨hL, hLv⟩, hR, ⟨hCt, hCo, hCi, hCv⟩, ⟨hMo, hMv, hMl, hMk⟩, ⟨hEo, hEv⟩, ⟨hAo, hAv⟩, ⟨hSo, hS0, hS1, hS2, hSg, hSh, hSy⟩, hD, hG⟩ := hW
  have hLo := hL.1
  have hRo := hR.1
  have hTo := hCt.1
  have hMo1 := hMo.1
  have hEo1 := hEo.1
  have hAo1 := hAo.1
  refine g_aload_n hC dX9_find_0 rfl ?_
  refine g_getR hC fdX9_10 (by assumption) (by assumption) dX9_find_1 ?_
  refine g_iload_n hC dX9_find_4 rfl ?_
  refine g_VP hC (kX3_hasLibrary (gl X) (gD X) (gac X) (A 0) (A 1) (A 2) (A 3) la l0 l1 l2 rp ms l hL hLv h_p) cvX3_hasLibrary lkX9_58 (by assumption) rfl rfl (Nat.le_of_ble_eq_true rfl) (hI.fit (Nat.le_of_ble_eq_true rfl) (Nat.le_of_ble_eq_true rfl) (Nat.le_of_ble_eq_true rfl)) dX9_find_5 (fun x5 hx5 => ?_)
  refine g_if_eq (tgt := 23) hC dX9_find_8 (by decide) ⟨by omega, by omega⟩ (fun h8 => ?_) (fun h8 => ?_)
  · refine g_bipush hC dX9_find_23 (by decide +kernel) ?_
    refine g_iret hC hI rfl dX9_find_25 (Nat.le_of_ble_eq_true rfl) (Nat.le_of_ble_eq_true rfl) ⟨rfl, rfl, rfl, _, rfl, ?_⟩
    rw [findR]
    first | (rw [if_neg (by omega)]) | (rw [if_pos (by omega)]; exact hx17)
  · refine g_aload_n hC dX9_find_11 rfl ?_
    refine g_getR hC fdX9_10 (by assumption) (by assumption) dX9_find_12 ?_
    refine g_iload_n hC dX9_find_15 rfl ?_
    refine g_iload_n hC dX9_find_16 rfl ?_
    refine g_VP hC (kX3_numberOf (gl X) (gD X) (gac X) (A 0) (A 1) (A 2) (A 3) la l0 l1 l2 rp ms l n hL hLv h_p h_q) cvX3_numberOf lkX9_65 (by assumption) rfl rfl (Nat.le_of_ble_eq_true rfl) (hI.fit (Nat.le_of_ble_eq_true rfl) (Nat.le_of_ble_eq_true rfl) (Nat.le_of_ble_eq_true rfl)) dX9_find_17 (fun x17 hx17 => ?_)
    refine g_goto (tgt := 25) hC dX9_find_20 (by decide) ?_
    refine g_iret hC hI rfl dX9_find_25 (Nat.le_of_ble_eq_true rfl) (Nat.le_of_ble_eq_true rfl) ⟨rfl, rfl, rfl, _, rfl, ?_⟩
    rw [findR]
    first | (rw [if_neg (by omega)]) | (rw [if_pos (by omega)]; exact hx17)
set_option maxHeartbeats 4000000 in
set_option maxRecDepth 100000 in
theorem kX9_letter (lc : Launch) (D : va_G) (ac : Nat → ClassId) {sh : Nat → Nat × Nat} {rf : Nat → Nat → Option Nat} {mem : Nat → Nat → Int} (G : Nat → Prop) (x : Nat) (A la l0 l1 l2 sa ra : Nat → Nat) (rp ex ar : List Int) (ms : List (Option MemT)) (ss : List (Option SetT)) (ch : Lns) (ds : Dfs) (lk : Nat) (g y z : Int) (m i k : Int) (hW : WXa G sh rf mem x A la l0 l1 l2 sa ra rp ms ss ch ds lk ex ar g y z) (h_p : inR m) (h_q : inR i) (h_k : inR k) : gMet lc D ac mX9_letter 6 [.ref x, .int (iI m), .int (iI i), .int (iI k)] 0 0 sh rf mem (pP sh rf mem (fun r => r = letR ms m i k)) := by
  refine gMet.mk (by decide) (by intro v hv; simp at hv; (try rcases hv with rfl | rfl | rfl | rfl) <;> rfl) (Nat.le_of_ble_eq_true rfl) (fun X hC hI => ?_)
  show gG X sh rf mem 0 0 0 [some (.ref x), some (.int (iI m)), some (.int (iI i)), some (.int (iI k)), none] []
  have hW9 := hW
  obtain ⟨⟨ho, r0, r1, r2, r3, r4, r5, r6⟩, ⟨hL, hLv⟩, hR, ⟨hCt, hCo, hCi, hCv⟩, ⟨hMo, hMv, hMl, hMk⟩, ⟨hEo, hEv⟩, ⟨hAo, hAv⟩, ⟨hSo, hS0, hS1, hS2, hSg, hSh, hSy⟩, hD, hG⟩ := hW
  have hLo := hL.1
  have hRo := hR.1
  have hTo := hCt.1
  have hMo1 := hMo.1
  have hEo1 := hEo.1
  have hAo1 := hAo.1
  have i_p := h_p
  obtain ⟨p1, p2⟩ := h_p
  have i_q := h_q
  obtain ⟨q1, q2⟩ := h_q
  have i_k := h_k
  obtain ⟨k1, k2⟩ := h_k
  refine g_aload_n hC dX9_letter_0 rfl ?_
  refine g_getR hC fdX9_10 (by assumption) (by assumption) dX9_letter_1 ?_
  refine g_iload_n hC dX9_letter_4 rfl ?_
  refine g_VR hC (kX3_linesOf (gl X) (gD X) (gac X) (A 0) (A 1) (A 2) (A 3) la l0 l1 l2 rp ms m hL hLv i_p) cvX3_linesOf lkX9_72 (by assumption) rfl rfl (Nat.le_of_ble_eq_true rfl) (hI.fit (Nat.le_of_ble_eq_true rfl) (Nat.le_of_ble_eq_true rfl) (Nat.le_of_ble_eq_true rfl)) dX9_letter_5 (fun x5 hx5 => ?_)
  rcases e5 : memAt ms (m) with _ | y5
  · rw [e5] at hx5
    subst hx5
    refine g_astoreN hC dX9_letter_8 (Nat.le_of_ble_eq_true rfl) ?_
    dsimp only [List.set]
    refine g_aloadN hC dX9_letter_10 rfl ?_
    refine g_ifnullN (tgt := 24) hC dX9_letter_12 (by decide) ?_
    refine g_iconst hC dX9_letter_24 ?_
    refine g_iret hC hI rfl dX9_letter_25 (Nat.le_of_ble_eq_true rfl) (Nat.le_of_ble_eq_true rfl) ⟨rfl, rfl, rfl, _, rfl, ?_⟩
    first
    | (rw [letR, e5]; done)
    | (have u : letR ms m i k = -1 := by rw [letR, e5]; exact if_neg (by omega)
       rw [u])
  · rw [e5] at hx5
    subst hx5
    obtain ⟨O5, I5, V5⟩ := LbV.at hLv e5
    have o5 := O5.1
    refine g_astore hC dX9_letter_8 (Nat.le_of_ble_eq_true rfl) ?_
    dsimp only [List.set]
    refine g_aload hC dX9_letter_10 rfl ?_
    refine g_ifnullR hC dX9_letter_12 ?_
    refine g_aload hC dX9_letter_15 rfl ?_
    refine g_iload_n hC dX9_letter_17 rfl ?_
    refine g_VP hC (kX4_has (gl X) (gD X) (gac X) _ _ _ _ i O5 I5 i_q) cvX4_has lkX9_231 (by assumption) rfl rfl (Nat.le_of_ble_eq_true rfl) (hI.fit (Nat.le_of_ble_eq_true rfl) (Nat.le_of_ble_eq_true rfl) (Nat.le_of_ble_eq_true rfl)) dX9_letter_18 (fun x18 hx18 => ?_)
    have v18 := V5.1
    rw [v18] at hx18
    refine g_if_ne (tgt := 26) hC dX9_letter_21 (by decide) ⟨by omega, by omega⟩ (fun h21 => ?_) (fun h21 => ?_)
    · refine g_iload_n hC dX9_letter_26 rfl ?_
      refine g_iconst hC dX9_letter_27 ?_
      refine g_icmp_ne (tgt := 40) hC dX9_letter_28 (by decide) ⟨by omega, by omega⟩ ⟨by omega, by omega⟩ (fun h28 => ?_) (fun h28 => ?_)
      · refine g_aload hC dX9_letter_40 rfl ?_
        refine g_iload_n hC dX9_letter_42 rfl ?_
        refine g_iload_n hC dX9_letter_43 rfl ?_
        refine g_VP hC (kX4_signAt (gl X) (gD X) (gac X) _ _ _ _ y5.2.2 i k O5 I5 V5 i_q i_k) cvX4_signAt lkX9_235 (by assumption) rfl rfl (Nat.le_of_ble_eq_true rfl) (hI.fit (Nat.le_of_ble_eq_true rfl) (Nat.le_of_ble_eq_true rfl) (Nat.le_of_ble_eq_true rfl)) dX9_letter_44 (fun x44 hx44 => ?_)
        refine g_iret hC hI rfl dX9_letter_47 (Nat.le_of_ble_eq_true rfl) (Nat.le_of_ble_eq_true rfl) ⟨rfl, rfl, rfl, _, rfl, ?_⟩
        first
        | (have u : letR ms m i k = nu y5.2.2 i.toNat := by rw [letR, e5]; exact (if_pos (by omega)).trans (if_pos (by omega))
           rw [u]
           omega)
        | (have u : letR ms m i k = if 0 ≤ k ∧ k < (sg y5.2.2 i.toNat).length then (sg y5.2.2 i.toNat).getD k.toNat 0 else -1 := by rw [letR, e5]; exact (if_pos (by omega)).trans (if_neg (by omega))
           rw [u]
           rcases hx44 with ⟨c1, c2, c3, c4⟩ | ⟨c1, c2⟩
           · rw [if_pos ⟨c2, c3⟩]; exact c4
           · rw [if_neg (fun w => c1 ⟨by omega, w⟩)]; exact c2)
      · refine g_aload hC dX9_letter_31 rfl ?_
        refine g_iload_n hC dX9_letter_33 rfl ?_
        refine g_VP hC (kX4_numberAt (gl X) (gD X) (gac X) _ _ _ _ y5.2.2 i O5 I5 V5 i_q) cvX4_numberAt lkX9_232 (by assumption) rfl rfl (Nat.le_of_ble_eq_true rfl) (hI.fit (Nat.le_of_ble_eq_true rfl) (Nat.le_of_ble_eq_true rfl) (Nat.le_of_ble_eq_true rfl)) dX9_letter_34 (fun x34 hx34 => ?_)
        refine g_goto (tgt := 47) hC dX9_letter_37 (by decide) ?_
        refine g_iret hC hI rfl dX9_letter_47 (Nat.le_of_ble_eq_true rfl) (Nat.le_of_ble_eq_true rfl) ⟨rfl, rfl, rfl, _, rfl, ?_⟩
        first
        | (have u : letR ms m i k = nu y5.2.2 i.toNat := by rw [letR, e5]; exact (if_pos (by omega)).trans (if_pos (by omega))
           rw [u]
           omega)
        | (have u : letR ms m i k = if 0 ≤ k ∧ k < (sg y5.2.2 i.toNat).length then (sg y5.2.2 i.toNat).getD k.toNat 0 else -1 := by rw [letR, e5]; exact (if_pos (by omega)).trans (if_neg (by omega))
           rw [u]
           rcases hx44 with ⟨c1, c2, c3, c4⟩ | ⟨c1, c2⟩
           · rw [if_pos ⟨c2, c3⟩]; exact c4
           · rw [if_neg (fun w => c1 ⟨by omega, w⟩)]; exact c2)
    · refine g_iconst hC dX9_letter_24 ?_
      refine g_iret hC hI rfl dX9_letter_25 (Nat.le_of_ble_eq_true rfl) (Nat.le_of_ble_eq_true rfl) ⟨rfl, rfl, rfl, _, rfl, ?_⟩
      first
      | (rw [letR, e5]; done)
      | (have u : letR ms m i k = -1 := by rw [letR, e5]; exact if_neg (by omega)
         rw [u])
set_option maxHeartbeats 4000000 in
set_option maxRecDepth 100000 in
theorem kX9_set (lc : Launch) (D : va_G) (ac : Nat → ClassId) {sh : Nat → Nat × Nat} {rf : Nat → Nat → Option Nat} {mem : Nat → Nat → Int} (G : Nat → Prop) (x : Nat) (A la l0 l1 l2 sa ra : Nat → Nat) (rp ex ar : List Int) (ms : List (Option MemT)) (ss : List (Option SetT)) (ch : Lns) (ds : Dfs) (lk : Nat) (g y z : Int) (n w : Int) (hW : WXa G sh rf mem x A la l0 l1 l2 sa ra rp ms ss ch ds lk ex ar g y z) (h_p : inR n) (h_q : inR w) : gMet lc D ac mX9_set 6 [.ref x, .int (iI n), .int (iI w)] 0 0 sh rf mem (pP sh rf mem (fun r => r = setR ss n w)) := by
  refine gMet.mk (by decide) (by intro v hv; simp at hv; (try rcases hv with rfl | rfl | rfl) <;> rfl) (Nat.le_of_ble_eq_true rfl) (fun X hC hI => ?_)
  show gG X sh rf mem 0 0 0 [some (.ref x), some (.int (iI n)), some (.int (iI w)), none] []
  have hW9 := hW
  obtain ⟨⟨ho, r0, r1, r2, r3, r4, r5, r6⟩, ⟨hL, hLv⟩, hR, ⟨hCt, hCo, hCi, hCv⟩, ⟨hMo, hMv, hMl, hMk⟩, ⟨hEo, hEv⟩, ⟨hAo, hAv⟩, ⟨hSo, hS0, hS1, hS2, hSg, hSh, hSy⟩, hD, hG⟩ := hW
  have hLo := hL.1
  have hRo := hR.1
  have hTo := hCt.1
  have hMo1 := hMo.1
  have hEo1 := hEo.1
  have hAo1 := hAo.1
  refine g_aload_n hC dX9_set_0 rfl ?_
  refine g_getR hC fdX9_19 (by assumption) (by assumption) dX9_set_1 ?_
  refine g_iload_n hC dX9_set_4 rfl ?_
  refine g_VR hC (kX7_at (gl X) (gD X) (gac X) (A 4) (A 5) sa ra ss n hR h_p) cvX7_at lkX9_147 (by assumption) rfl rfl (Nat.le_of_ble_eq_true rfl) (hI.fit (Nat.le_of_ble_eq_true rfl) (Nat.le_of_ble_eq_true rfl) (Nat.le_of_ble_eq_true rfl)) dX9_set_5 (fun x5 hx5 => ?_)
  rcases e5 : setAt ss (n) with _ | y5
  · rw [e5] at hx5
    subst hx5
    refine g_astore_nN hC 3 rfl dX9_set_8 (Nat.le_of_ble_eq_true rfl) ?_
    dsimp only [List.set]
    refine g_aload_nN hC dX9_set_9 rfl ?_
    refine g_ifnonnullN hC dX9_set_10 ?_
    refine g_iconst hC dX9_set_13 ?_
    refine g_goto (tgt := 22) hC dX9_set_14 (by decide) ?_
    refine g_iret hC hI rfl dX9_set_22 (Nat.le_of_ble_eq_true rfl) (Nat.le_of_ble_eq_true rfl) ⟨rfl, rfl, rfl, _, rfl, ?_⟩
    first | (rw [setR, e5]; exact hx19) | (rw [setR, e5])
  · rw [e5] at hx5
    subst hx5
    obtain ⟨O5, V5⟩ := RSs.at hR e5
    have o5 := O5.1
    refine g_astore_n hC 3 rfl dX9_set_8 (Nat.le_of_ble_eq_true rfl) ?_
    dsimp only [List.set]
    refine g_aload_n hC dX9_set_9 rfl ?_
    refine g_ifnonnullR (tgt := 17) hC dX9_set_10 (by decide) ?_
    refine g_aload_n hC dX9_set_17 rfl ?_
    refine g_iload_n hC dX9_set_18 rfl ?_
    refine g_VP hC (kX6_tell (gl X) (gD X) (gac X) _ _ y5.1 y5.2.1 y5.2.2.1 y5.2.2.2 w O5 V5 h_q) cvX6_tell lkX9_237 (by assumption) rfl rfl (Nat.le_of_ble_eq_true rfl) (hI.fit (Nat.le_of_ble_eq_true rfl) (Nat.le_of_ble_eq_true rfl) (Nat.le_of_ble_eq_true rfl)) dX9_set_19 (fun x19 hx19 => ?_)
    refine g_iret hC hI rfl dX9_set_22 (Nat.le_of_ble_eq_true rfl) (Nat.le_of_ble_eq_true rfl) ⟨rfl, rfl, rfl, _, rfl, ?_⟩
    first | (rw [setR, e5]; exact hx19) | (rw [setR, e5])
set_option maxHeartbeats 4000000 in
set_option maxRecDepth 100000 in
theorem kX9_count (lc : Launch) (D : va_G) (ac : Nat → ClassId) {sh : Nat → Nat × Nat} {rf : Nat → Nat → Option Nat} {mem : Nat → Nat → Int} (G : Nat → Prop) (x : Nat) (A la l0 l1 l2 sa ra : Nat → Nat) (rp ex ar : List Int) (ms : List (Option MemT)) (ss : List (Option SetT)) (ch : Lns) (ds : Dfs) (lk : Nat) (g y z : Int) (w : Int) (hW : WXa G sh rf mem x A la l0 l1 l2 sa ra rp ms ss ch ds lk ex ar g y z) (h_p : inR w) : gMet lc D ac mX9_count 6 [.ref x, .int (iI w)] 0 0 sh rf mem (pP sh rf mem (fun r => r = couR rp ms ss ch ds ar w)) := by
  refine gMet.mk (by decide) (by intro v hv; simp at hv; (try rcases hv with rfl | rfl) <;> rfl) (Nat.le_of_ble_eq_true rfl) (fun X hC hI => ?_)
  show gG X sh rf mem 0 0 0 [some (.ref x), some (.int (iI w))] []
  have hW9 := hW
  obtain ⟨⟨ho, r0, r1, r2, r3, r4, r5, r6⟩, ⟨hL, hLv⟩, hR, ⟨hCt, hCo, hCi, hCv⟩, ⟨hMo, hMv, hMl, hMk⟩, ⟨hEo, hEv⟩, ⟨hAo, hAv⟩, ⟨hSo, hS0, hS1, hS2, hSg, hSh, hSy⟩, hD, hG⟩ := hW
  have hLo := hL.1
  have hRo := hR.1
  have hTo := hCt.1
  have hMo1 := hMo.1
  have hEo1 := hEo.1
  have hAo1 := hAo.1
  have i_p := h_p
  obtain ⟨p1, p2⟩ := h_p
  refine g_iload_n hC dX9_count_0 rfl ?_
  rcases (show w = 0 ∨ w = 1 ∨ w = 2 ∨ w = 3 ∨ w = 4 ∨ w = 5 ∨ (w < 0 ∨ 5 < w) by omega) with s1 | s1 | s1 | s1 | s1 | s1 | s1
  · refine g_tableIn (tgt := 40) hC dX9_count_1 (0) s1 ⟨by decide, by decide⟩ (by decide) (by decide) rfl (by decide) ?_
    refine g_aload_n hC dX9_count_40 rfl ?_
    refine g_getR hC fdX9_10 (by assumption) (by assumption) dX9_count_41 ?_
    refine g_VP hC (kX3_librariesMade (gl X) (gD X) (gac X) (A 0) (A 1) (A 2) (A 3) la l0 l1 l2 rp ms hL hLv) cvX3_librariesMade lkX9_239 (by assumption) rfl rfl (Nat.le_of_ble_eq_true rfl) (hI.fit (Nat.le_of_ble_eq_true rfl) (Nat.le_of_ble_eq_true rfl) (Nat.le_of_ble_eq_true rfl)) dX9_count_44 (fun x44 hx44 => ?_)
    refine g_iret hC hI rfl dX9_count_47 (Nat.le_of_ble_eq_true rfl) (Nat.le_of_ble_eq_true rfl) ⟨rfl, rfl, rfl, _, rfl, ?_⟩
    subst s1
    exact hx44
  · refine g_tableIn (tgt := 48) hC dX9_count_1 (1) s1 ⟨by decide, by decide⟩ (by decide) (by decide) rfl (by decide) ?_
    refine g_aload_n hC dX9_count_48 rfl ?_
    refine g_getR hC fdX9_10 (by assumption) (by assumption) dX9_count_49 ?_
    refine g_VP hC (kX3_membersMade (gl X) (gD X) (gac X) (A 0) (A 1) (A 2) (A 3) la l0 l1 l2 rp ms hL hLv) cvX3_membersMade lkX9_242 (by assumption) rfl rfl (Nat.le_of_ble_eq_true rfl) (hI.fit (Nat.le_of_ble_eq_true rfl) (Nat.le_of_ble_eq_true rfl) (Nat.le_of_ble_eq_true rfl)) dX9_count_52 (fun x52 hx52 => ?_)
    refine g_iret hC hI rfl dX9_count_55 (Nat.le_of_ble_eq_true rfl) (Nat.le_of_ble_eq_true rfl) ⟨rfl, rfl, rfl, _, rfl, ?_⟩
    subst s1
    exact hx52
  · refine g_tableIn (tgt := 56) hC dX9_count_1 (2) s1 ⟨by decide, by decide⟩ (by decide) (by decide) rfl (by decide) ?_
    refine g_aload_n hC dX9_count_56 rfl ?_
    refine g_getR hC fdX9_19 (by assumption) (by assumption) dX9_count_57 ?_
    refine g_VP hC (kX7_setsMade (gl X) (gD X) (gac X) (A 4) (A 5) sa ra ss hR) cvX7_setsMade lkX9_245 (by assumption) rfl rfl (Nat.le_of_ble_eq_true rfl) (hI.fit (Nat.le_of_ble_eq_true rfl) (Nat.le_of_ble_eq_true rfl) (Nat.le_of_ble_eq_true rfl)) dX9_count_60 (fun x60 hx60 => ?_)
    refine g_iret hC hI rfl dX9_count_63 (Nat.le_of_ble_eq_true rfl) (Nat.le_of_ble_eq_true rfl) ⟨rfl, rfl, rfl, _, rfl, ?_⟩
    subst s1
    exact hx60
  · refine g_tableIn (tgt := 64) hC dX9_count_1 (3) s1 ⟨by decide, by decide⟩ (by decide) (by decide) rfl (by decide) ?_
    refine g_aload_n hC dX9_count_64 rfl ?_
    refine g_getR hC fdX9_26 (by assumption) (by assumption) dX9_count_65 ?_
    refine g_VP hC (kX0_size (gl X) (gD X) (gac X) (A 6) (A 7) (A 8) (A 9) (A 10) ch hCt hCo hCi hCv) cvX0_size lkX9_248 (by assumption) rfl rfl (Nat.le_of_ble_eq_true rfl) (hI.fit (Nat.le_of_ble_eq_true rfl) (Nat.le_of_ble_eq_true rfl) (Nat.le_of_ble_eq_true rfl)) dX9_count_68 (fun x68 hx68 => ?_)
    refine g_iret hC hI rfl dX9_count_71 (Nat.le_of_ble_eq_true rfl) (Nat.le_of_ble_eq_true rfl) ⟨rfl, rfl, rfl, _, rfl, ?_⟩
    subst s1
    exact hx68
  · refine g_tableIn (tgt := 72) hC dX9_count_1 (4) s1 ⟨by decide, by decide⟩ (by decide) (by decide) rfl (by decide) ?_
    refine g_aload_n hC dX9_count_72 rfl ?_
    refine g_getR hC fdX9_33 (by assumption) (by assumption) dX9_count_73 ?_
    refine g_VP hC (kX1_size (gl X) (gD X) (gac X) (A 11) (A 12) (A 13) (A 14) ds hMo hMv) cvX1_size lkX9_109 (by assumption) rfl rfl (Nat.le_of_ble_eq_true rfl) (hI.fit (Nat.le_of_ble_eq_true rfl) (Nat.le_of_ble_eq_true rfl) (Nat.le_of_ble_eq_true rfl)) dX9_count_76 (fun x76 hx76 => ?_)
    refine g_iret hC hI rfl dX9_count_79 (Nat.le_of_ble_eq_true rfl) (Nat.le_of_ble_eq_true rfl) ⟨rfl, rfl, rfl, _, rfl, ?_⟩
    subst s1
    exact hx76
  · refine g_tableIn (tgt := 80) hC dX9_count_1 (5) s1 ⟨by decide, by decide⟩ (by decide) (by decide) rfl (by decide) ?_
    refine g_aload_n hC dX9_count_80 rfl ?_
    refine g_getR hC fdX9_44 (by assumption) (by assumption) dX9_count_81 ?_
    refine g_VP hC (kX5_size (gl X) (gD X) (gac X) (A 17) (A 18) ar hAo hAv) cvX5_size lkX9_190 (by assumption) rfl rfl (Nat.le_of_ble_eq_true rfl) (hI.fit (Nat.le_of_ble_eq_true rfl) (Nat.le_of_ble_eq_true rfl) (Nat.le_of_ble_eq_true rfl)) dX9_count_84 (fun x84 hx84 => ?_)
    refine g_iret hC hI rfl dX9_count_87 (Nat.le_of_ble_eq_true rfl) (Nat.le_of_ble_eq_true rfl) ⟨rfl, rfl, rfl, _, rfl, ?_⟩
    subst s1
    exact hx84
  · refine g_tableOut (tgt := 88) hC dX9_count_1 ⟨by omega, by omega⟩ s1 (by decide) ?_
    refine g_iconst hC dX9_count_88 ?_
    refine g_iret hC hI rfl dX9_count_89 (Nat.le_of_ble_eq_true rfl) (Nat.le_of_ble_eq_true rfl) ⟨rfl, rfl, rfl, _, rfl, ?_⟩
    rw [couR, if_neg (by omega), if_neg (by omega), if_neg (by omega), if_neg (by omega), if_neg (by omega), if_neg (by omega)]
