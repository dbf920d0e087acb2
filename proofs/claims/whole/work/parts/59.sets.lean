section M9
variable {mem mem1 mem2 : Nat → Nat → Int} {m : Nat} {B : Nat → Nat} {ss : List (Option SetT)}
theorem setAt_view2 {n : Int} {x : SetT} (h : vS m B mem ss) (ok : okS ss) (e : setAt ss n = some x) : ∃ K : Nat, n = (K : Int) ∧ 1 ≤ K ∧ K ≤ 20 ∧ K ≤ ss.length ∧ ss.getD (K - 1) none = some x ∧ sB1 B mem K x ∧ (0 ≤ x.1 ∧ x.1 < 100 ∧ (x.2.1 = 0 ∨ x.2.1 = 1) ∧ x.2.2.1.length ≤ 60 ∧ x.2.2.2 ≤ x.2.2.1.length) := by
  obtain ⟨k, h1, h2, h3, h4⟩ := setAt_view h e
  have := ok.1
  exact ⟨k + 1, by omega, by omega, by omega, by omega, h3, h4, ok.2 k x h3⟩
def frS (B : Nat → Nat) (mem mem1 : Nat → Nat → Int) (k : Nat) : Prop := (∀ j, j ≠ k → mem1 (B 12) j = mem (B 12) j ∧ mem1 (B 13) j = mem (B 13) j ∧ mem1 (B 14) j = mem (B 14) j ∧ mem1 (B 16) j = mem (B 16) j ∧ mem1 (B 17) j = mem (B 17) j) ∧ ∀ j, ¬ (60 * k ≤ j ∧ j < 60 * k + 60) → mem1 (B 15) j = mem (B 15) j
theorem frS.rf0 {k : Nat} : frS B mem mem k := ⟨fun _ _ => ⟨rfl, rfl, rfl, rfl, rfl⟩, fun _ _ => rfl⟩
theorem frS.trans {k : Nat} (h : frS B mem mem1 k) (g : frS B mem1 mem2 k) : frS B mem mem2 k := by
  refine ⟨fun j hj => ?_, fun j hj => (g.2 j hj).trans (h.2 j hj)⟩
  obtain ⟨a1, a2, a3, a4, a5⟩ := h.1 j hj
  obtain ⟨b1, b2, b3, b4, b5⟩ := g.1 j hj
  exact ⟨b1.trans a1, b2.trans a2, b3.trans a3, b4.trans a4, b5.trans a5⟩
theorem sB1.fr {k i : Nat} {x : SetT} (h : sB1 B mem i x) (hl : x.2.2.1.length ≤ 60) (hk : i ≠ k) (f : frS B mem mem1 k) : sB1 B mem1 i x := by
  obtain ⟨h1, h2, h3, h4, h5, h6⟩ := h
  obtain ⟨b1, b2, b3, b4, b5⟩ := f.1 i hk
  exact ⟨by rw [b5]; exact h1, by rw [b1]; exact h2, by rw [b4]; exact h3, by rw [b2]; exact h4, by rw [b3]; exact h5, fun j hj => by rw [f.2 _ (by omega)]; exact h6 j hj⟩
theorem vS_set {k : Nat} {x y : SetT} (h : vS m B mem ss) (ok : okS ss) (hx : ss.getD k none = some x) (hy : sB1 B mem1 (k + 1) y) (hf : frS B mem mem1 (k + 1)) (h3 : mem1 m 3 = mem m 3) : vS m B mem1 (ss.set k (some y)) := by
  have hk : k < ss.length := getD_lt (by rw [hx]; simp)
  obtain ⟨v1, v2, v3⟩ := h
  refine ⟨by rw [h3, List.length_set]; exact v1, fun i hi => ?_, fun i hi => ?_⟩
  · rw [List.length_set] at hi
    rw [getD_setS hk]
    by_cases e : i = k
    · subst e
      rw [if_pos rfl]
      exact ⟨fun w => by simp at w, fun w hw => by cases hw; exact hy⟩
    · rw [if_neg e, (hf.1 (i + 1) (by omega)).2.2.2.2]
      exact ⟨(v2 i hi).1, fun w hw => ((v2 i hi).2 w hw).fr (ok.2 i w hw).2.2.2.1 (by omega) hf⟩
  · rw [List.length_set] at hi
    rw [(hf.1 (i + 1) (by omega)).2.2.2.2]
    exact v3 i hi
theorem vS_gone {k : Nat} {x : SetT} (hBe : ∀ i j, (B i = B j) = (i = j)) (hmB : ∀ i, (m = B i) = False) (h : vS m B mem ss) (hx : ss.getD k none = some x) : vS m B (gup mem (B 17) (k + 1) 1) (ss.set k none) ∧ chF m B mem (gup mem (B 17) (k + 1) 1) [17] := by
  have hk : k < ss.length := getD_lt (by rw [hx]; simp)
  obtain ⟨h1, h2, h3⟩ := h
  have hc : chF m B mem (gup mem (B 17) (k + 1) 1) [17] := chF.row hBe hmB
  refine ⟨⟨by rw [(hc.1 3 (by decide)).1, List.length_set]; exact h1, fun i hi => ?_, fun i hi => ?_⟩, hc⟩
  · rw [List.length_set] at hi
    rw [getD_setS hk]
    by_cases e : i = k
    · subst e
      rw [if_pos rfl]
      exact ⟨fun _ => gup_s _ _ _ _, fun w hw => by simp at hw⟩
    · rw [if_neg e, gup_k _ _ _ _ (by omega)]
      refine ⟨(h2 i hi).1, fun w hw => ?_⟩
      obtain ⟨q1, q2, q3, q4, q5, q6⟩ := (h2 i hi).2 w hw
      exact ⟨by rw [gup_k _ _ _ _ (by omega)]; exact q1, by rw [(hc.1 12 (by decide)).2]; exact q2, by rw [(hc.1 16 (by decide)).2]; exact q3, by rw [(hc.1 13 (by decide)).2]; exact q4, by rw [(hc.1 14 (by decide)).2]; exact q5, by rw [(hc.1 15 (by decide)).2]; exact q6⟩
  · rw [List.length_set] at hi
    rw [gup_k _ _ _ _ (by omega)]; exact h3 i hi
def newQ (B : Nat → Nat) (mem : Nat → Nat → Int) (m k : Nat) (n g : Int) : Nat → Nat → Int := gup (gup (gup (gup (gup mem m 3 k) (B 12) k n) (B 16) k g) (B 13) k 0) (B 14) k 0
theorem vS_new {n g : Int} (hBe : ∀ i j, (B i = B j) = (i = j)) (hBm : ∀ i, (B i = m) = False) (hmB : ∀ i, (m = B i) = False) (h : vS m B mem ss) : vS m B (newQ B mem m (ss.length + 1) n g) (ss ++ [some (n, g, [], 0)]) ∧ chF m B mem (newQ B mem m (ss.length + 1) n g) [3, 12, 13, 14, 16] := by
  obtain ⟨h1, h2, h3⟩ := h
  refine ⟨⟨?_, fun i hi => ?_, fun i hi => ?_⟩, ((chF.fld hmB).trans ((chF.row hBe hmB).trans ((chF.row hBe hmB).trans ((chF.row hBe hmB).trans (chF.row hBe hmB))))).mono (by decide)⟩
  · simp [newQ, gup, hmB]
  · rw [getD_appS]
    by_cases e : i = ss.length
    · subst e
      rw [if_pos rfl]
      refine ⟨fun w => by simp at w, fun w hw => ?_⟩
      cases hw
      refine ⟨?_, ?_, ?_, ?_, ?_, fun j hj => absurd hj (Nat.not_lt_zero j)⟩
      · simp [newQ, gup, hBe, hBm]; exact h3 _ (Nat.le_refl _)
      · simp [newQ, gup, hBe, hBm]
      · simp [newQ, gup, hBe, hBm]
      · simp [newQ, gup, hBe, hBm]
      · simp [newQ, gup, hBe, hBm]
    · rw [if_neg e]
      have hi2 : i < ss.length := by simp at hi; omega
      refine ⟨fun w => ?_, fun w hw => ?_⟩
      · simp [newQ, gup, hBe, hBm]; exact (h2 i hi2).1 w
      · obtain ⟨q1, q2, q3, q4, q5, q6⟩ := (h2 i hi2).2 w hw
        refine ⟨?_, ?_, ?_, ?_, ?_, fun j hj => ?_⟩
        · simp [newQ, gup, hBe, hBm]; exact q1
        · simp [newQ, gup, hBe, hBm, e]; exact q2
        · simp [newQ, gup, hBe, hBm, e]; exact q3
        · simp [newQ, gup, hBe, hBm, e]; exact q4
        · simp [newQ, gup, hBe, hBm, e]; exact q5
        · simp [newQ, gup, hBe, hBm]; exact q6 j hj
  · simp at hi
    simp [newQ, gup, hBe, hBm]; exact h3 i (by omega)
def appQ (B : Nat → Nat) (mem : Nat → Nat → Int) (k mk : Nat) (v : Int) : Nat → Nat → Int := gup (gup (gup mem (B 15) (60 * k + mk) v) (B 14) k (mk + 1)) (B 13) k (mk + 1)
theorem app_view {k : Nat} {v : Int} {x : SetT} (hBe : ∀ i j, (B i = B j) = (i = j)) (hmB : ∀ i, (m = B i) = False) (h : sB1 B mem k x) (hm : x.2.2.2 < 60) (hl : x.2.2.2 ≤ x.2.2.1.length) : sB1 B (appQ B mem k x.2.2.2 v) k (x.1, x.2.1, x.2.2.1.take x.2.2.2 ++ [v], x.2.2.2 + 1) ∧ frS B mem (appQ B mem k x.2.2.2 v) k ∧ chF m B mem (appQ B mem k x.2.2.2 v) [13, 14, 15] := by
  obtain ⟨h1, h2, h3, h4, h5, h6⟩ := h
  have len : (x.2.2.1.take x.2.2.2).length = x.2.2.2 := by rw [List.length_take]; omega
  refine ⟨⟨?_, ?_, ?_, ?_, ?_, fun j hj => ?_⟩, ⟨fun j hj => ?_, fun j hj => ?_⟩, ((chF.row hBe hmB).trans ((chF.row hBe hmB).trans (chF.row hBe hmB))).mono (by decide)⟩
  · simp [appQ, gup, hBe]; exact h1
  · simp [appQ, gup, hBe]; exact h2
  · simp [appQ, gup, hBe]; exact h3
  · show _ = ((x.2.2.1.take x.2.2.2 ++ [v]).length : Int)
    rw [List.length_append, len]
    simp [appQ, gup, hBe]
  · simp [appQ, gup, hBe]
  · show _ = (x.2.2.1.take x.2.2.2 ++ [v]).getD j 0
    have hj2 : j < x.2.2.2 + 1 := by
      have : j < (x.2.2.1.take x.2.2.2 ++ [v]).length := hj
      rw [List.length_append, len] at this
      exact this
    rw [getD_snd, len]
    by_cases e : j = x.2.2.2
    · rw [if_pos e, e]; simp [appQ, gup, hBe]
    · rw [if_neg e, getD_take (by omega)]
      simp [appQ, gup, hBe, e]
      exact h6 j (by omega)
  · simp [appQ, gup, hBe, hj]
  · have e : j ≠ 60 * k + x.2.2.2 := by omega
    simp [appQ, gup, hBe, e]
end M9
set_option maxHeartbeats 4000000 in
set_option maxRecDepth 100000 in
theorem kX10_append (lc : Launch) (D : va_G) (ac : Nat → ClassId) {sh : Nat → Nat × Nat} {rf : Nat → Nat → Option Nat} {mem : Nat → Nat → Int} (m : Nat) (B : Nat → Nat) (k : Nat) (x : SetT) (v : Int) (hM : MO sh rf m B) (h : sB1 B mem k x) (hk : 1 ≤ k ∧ k ≤ 20) (hm : x.2.2.2 < 60) (hl : x.2.2.2 ≤ x.2.2.1.length) : gMet lc D ac mX10_append 0 [.ref m, .int (iI k), .int (iI v)] 0 0 sh rf mem (pV sh rf (fun mem1 => sB1 B mem1 k (x.1, x.2.1, x.2.2.1.take x.2.2.2 ++ [v], x.2.2.2 + 1) ∧ frS B mem mem1 k ∧ chF m B mem mem1 [13, 14, 15])) := by
  refine gMet.mk (by decide) (by intro v hv; simp at hv; (try rcases hv with rfl | rfl | rfl) <;> rfl) (Nat.le_of_ble_eq_true rfl) (fun X hC hI => ?_)
  show gG X sh rf mem 0 0 0 [some (.ref m), some (.int (iI k)), some (.int (iI v))] []
  have hM9 := hM
  obtain ⟨mo, R4, S4, R5, S5, R6, S6, R7, S7, R8, S8, R9, S9, R10, S10, R11, S11, R12, S12, R13, S13, R14, S14, R15, S15, R16, S16, R17, S17, R19, S19, R20, S20, R21, S21, R22, S22, R25, S25, R26, S26, R27, S27, R30, S30, R31, S31, hBe, hBm, hmB⟩ := hM
  have l5 : mem (B 14) (k : Int).toNat = x.2.2.2 := h.2.2.2.2.1
  have e5 : (60 * (k : Int) + x.2.2.2).toNat = 60 * k + x.2.2.2 := by omega
  refine g_aload_n hC dX10_append_0 rfl ?_
  refine g_getR hC fdX10_44 (by assumption) (by assumption) dX10_append_1 ?_
  refine g_bipush hC dX10_append_4 (by decide +kernel) ?_
  refine g_iload_n hC dX10_append_6 rfl ?_
  refine g_imul hC dX10_append_7 ?_
  refine g_aload_n hC dX10_append_8 rfl ?_
  refine g_getR hC fdX10_41 (by assumption) (by assumption) dX10_append_9 ?_
  refine g_iload_n hC dX10_append_12 rfl ?_
  refine g_iald hC (by assumption) (by omega) (by omega) (by decide) dX10_append_13 ?_
  rw [l5]
  refine g_iadd hC dX10_append_14 ?_
  refine g_iload_n hC dX10_append_15 rfl ?_
  refine g_iast hC (by assumption) (by omega) (by omega) (by decide) dX10_append_16 ?_
  obtain ⟨mem2, e2⟩ : ∃ q, q = gup mem (B 15) (60 * (k : Int) + x.2.2.2).toNat v := ⟨_, rfl⟩
  rw [← e2]
  have t2 : mem2 (B 14) (k : Int).toNat = x.2.2.2 := by rw [e2, gup_a _ _ _ _ (by simp [hBe])]; exact l5
  refine g_aload_n hC dX10_append_17 rfl ?_
  refine g_getR hC fdX10_41 (by assumption) (by assumption) dX10_append_18 ?_
  refine g_iload_n hC dX10_append_21 rfl ?_
  refine g_dup2 hC dX10_append_22 rfl rfl ?_
  refine g_iald hC (by assumption) (by omega) (by omega) (by decide) dX10_append_23 ?_
  rw [t2]
  refine g_iconst hC dX10_append_24 ?_
  refine g_iadd hC dX10_append_25 ?_
  refine g_iast hC (by assumption) (by omega) (by omega) (by decide) dX10_append_26 ?_
  obtain ⟨mem3, e3⟩ : ∃ q, q = gup mem2 (B 14) (k : Int).toNat ((x.2.2.2 : Int) + 1) := ⟨_, rfl⟩
  rw [← e3]
  have t3 : mem3 (B 14) (k : Int).toNat = (x.2.2.2 : Int) + 1 := by rw [e3, gup_s]
  refine g_aload_n hC dX10_append_27 rfl ?_
  refine g_getR hC fdX10_38 (by assumption) (by assumption) dX10_append_28 ?_
  refine g_iload_n hC dX10_append_31 rfl ?_
  refine g_aload_n hC dX10_append_32 rfl ?_
  refine g_getR hC fdX10_41 (by assumption) (by assumption) dX10_append_33 ?_
  refine g_iload_n hC dX10_append_36 rfl ?_
  refine g_iald hC (by assumption) (by omega) (by omega) (by decide) dX10_append_37 ?_
  rw [t3]
  refine g_iast hC (by assumption) (by omega) (by omega) (by decide) dX10_append_38 ?_
  refine g_vret hC hI rfl dX10_append_39 (Nat.le_of_ble_eq_true rfl) (Nat.le_of_ble_eq_true rfl) ⟨rfl, rfl, rfl, ?_⟩
  have key := app_view (m := m) (v := v) hBe hmB h hm hl
  rw [e3, e2, e5]
  exact key
set_option maxHeartbeats 4000000 in
set_option maxRecDepth 100000 in
theorem kX10_newSet (lc : Launch) (D : va_G) (ac : Nat → ClassId) {sh : Nat → Nat × Nat} {rf : Nat → Nat → Option Nat} {mem : Nat → Nat → Int} (m : Nat) (B : Nat → Nat) (ss : List (Option SetT)) (n g : Int) (hM : MO sh rf m B) (hv : vS m B mem ss) (hk : ss.length < 20) (hg : g = 0 ∨ g = 1) : gMet lc D ac mX10_newSet 0 [.ref m, .int (iI n), .int (iI g)] 0 0 sh rf mem (pM sh rf (fun r mem1 => r = ss.length + 1 ∧ mem1 = newQ B mem m (ss.length + 1) n g)) := by
  refine gMet.mk (by decide) (by intro v hv; simp at hv; (try rcases hv with rfl | rfl | rfl) <;> rfl) (Nat.le_of_ble_eq_true rfl) (fun X hC hI => ?_)
  show gG X sh rf mem 0 0 0 [some (.ref m), some (.int (iI n)), some (.int (iI g))] []
  have hM9 := hM
  obtain ⟨mo, R4, S4, R5, S5, R6, S6, R7, S7, R8, S8, R9, S9, R10, S10, R11, S11, R12, S12, R13, S13, R14, S14, R15, S15, R16, S16, R17, S17, R19, S19, R20, S20, R21, S21, R22, S22, R25, S25, R26, S26, R27, S27, R30, S30, R31, S31, hBe, hBm, hmB⟩ := hM
  have v1 := hv.1
  refine g_aload_n hC dX10_newSet_0 rfl ?_
  refine g_dup hC dX10_newSet_1 rfl ?_
  refine g_getI hC fdX10_93 (by assumption) dX10_newSet_2 ?_
  refine g_iconst hC dX10_newSet_5 ?_
  refine g_iadd hC dX10_newSet_6 ?_
  refine g_putI hC fdX10_93 (by assumption) rfl rfl dX10_newSet_7 ?_
  obtain ⟨mem2, e2⟩ : ∃ q, q = gup mem m 3 (mem m 3 + 1) := ⟨_, rfl⟩
  rw [← e2]
  have t2 : mem2 m 3 = ss.length + 1 := by rw [e2, gup_s, v1]
  have w2 : (mem2 m 3).toNat = ss.length + 1 := by omega
  refine g_aload_n hC dX10_newSet_10 rfl ?_
  refine g_getR hC fdX10_35 (by assumption) (by assumption) dX10_newSet_11 ?_
  refine g_aload_n hC dX10_newSet_14 rfl ?_
  refine g_getI hC fdX10_93 (by assumption) dX10_newSet_15 ?_
  refine g_iload_n hC dX10_newSet_18 rfl ?_
  refine g_iast hC (by assumption) (by omega) (by omega) (by decide) dX10_newSet_19 ?_
  obtain ⟨mem3, e3⟩ : ∃ q, q = gup mem2 (B 12) (mem2 m 3).toNat n := ⟨_, rfl⟩
  rw [← e3]
  have t3 : mem3 m 3 = ss.length + 1 := by rw [e3, gup_a _ _ _ _ (by simp [hmB])]; exact t2
  have w3 : (mem3 m 3).toNat = ss.length + 1 := by omega
  refine g_aload_n hC dX10_newSet_20 rfl ?_
  refine g_getR hC fdX10_47 (by assumption) (by assumption) dX10_newSet_21 ?_
  refine g_aload_n hC dX10_newSet_24 rfl ?_
  refine g_getI hC fdX10_93 (by assumption) dX10_newSet_25 ?_
  refine g_iload_n hC dX10_newSet_28 rfl ?_
  refine g_zast hC (by assumption) (by omega) (by omega) (by decide) (by omega) dX10_newSet_29 ?_
  obtain ⟨mem4, e4⟩ : ∃ q, q = gup mem3 (B 16) (mem3 m 3).toNat g := ⟨_, rfl⟩
  rw [← e4]
  have t4 : mem4 m 3 = ss.length + 1 := by rw [e4, gup_a _ _ _ _ (by simp [hmB])]; exact t3
  have w4 : (mem4 m 3).toNat = ss.length + 1 := by omega
  refine g_aload_n hC dX10_newSet_30 rfl ?_
  refine g_getR hC fdX10_38 (by assumption) (by assumption) dX10_newSet_31 ?_
  refine g_aload_n hC dX10_newSet_34 rfl ?_
  refine g_getI hC fdX10_93 (by assumption) dX10_newSet_35 ?_
  refine g_iconst hC dX10_newSet_38 ?_
  refine g_iast hC (by assumption) (by omega) (by omega) (by decide) dX10_newSet_39 ?_
  obtain ⟨mem5, e5⟩ : ∃ q, q = gup mem4 (B 13) (mem4 m 3).toNat 0 := ⟨_, rfl⟩
  rw [← e5]
  have t5 : mem5 m 3 = ss.length + 1 := by rw [e5, gup_a _ _ _ _ (by simp [hmB])]; exact t4
  have w5 : (mem5 m 3).toNat = ss.length + 1 := by omega
  refine g_aload_n hC dX10_newSet_40 rfl ?_
  refine g_getR hC fdX10_41 (by assumption) (by assumption) dX10_newSet_41 ?_
  refine g_aload_n hC dX10_newSet_44 rfl ?_
  refine g_getI hC fdX10_93 (by assumption) dX10_newSet_45 ?_
  refine g_iconst hC dX10_newSet_48 ?_
  refine g_iast hC (by assumption) (by omega) (by omega) (by decide) dX10_newSet_49 ?_
  obtain ⟨mem6, e6⟩ : ∃ q, q = gup mem5 (B 14) (mem5 m 3).toNat 0 := ⟨_, rfl⟩
  rw [← e6]
  have t6 : mem6 m 3 = ss.length + 1 := by rw [e6, gup_a _ _ _ _ (by simp [hmB])]; exact t5
  refine g_aload_n hC dX10_newSet_50 rfl ?_
  refine g_getI hC fdX10_93 (by assumption) dX10_newSet_51 ?_
  refine g_iret hC hI rfl dX10_newSet_54 (Nat.le_of_ble_eq_true rfl) (Nat.le_of_ble_eq_true rfl) ⟨rfl, rfl, _, rfl, ?_⟩
  refine ⟨t6, ?_⟩
  rw [e6, w5, e5, w4, e4, w3, e3, w2, e2, v1]
  rfl
set_option maxHeartbeats 4000000 in
set_option maxRecDepth 100000 in
theorem kX10_define (lc : Launch) (D : va_G) (ac : Nat → ClassId) {sh : Nat → Nat × Nat} {rf : Nat → Nat → Option Nat} {mem : Nat → Nat → Int} (m : Nat) (B : Nat → Nat) (rp ex ar : List Int) (ms : List (Option MemT)) (ss : List (Option SetT)) (ch : Lns) (ds : Dfs) (lk : Nat) (g y z : Int) (n v : Int) (hM : MO sh rf m B) (hV : MV m B mem rp ms ss ch ds lk ex ar g y z) (kS : okS ss) (h_n : inR n) (hv : v = 0 ∨ v = 1) : gMet lc D ac mX10_define 3 [.ref m, .int (iI n), .int (iI v)] 0 0 sh rf mem (pM sh rf (fun r mem1 => r = defR ss n ∧ MV m B mem1 rp ms (defS ss n v) ch ds lk ex ar g y z ∧ chA m B mem mem1)) := by
  refine gMet.mk (by decide) (by intro v hv; simp at hv; (try rcases hv with rfl | rfl | rfl) <;> rfl) (Nat.le_of_ble_eq_true rfl) (fun X hC hI => ?_)
  show gG X sh rf mem 0 0 0 [some (.ref m), some (.int (iI n)), some (.int (iI v))] []
  have hM9 := hM
  obtain ⟨mo, R4, S4, R5, S5, R6, S6, R7, S7, R8, S8, R9, S9, R10, S10, R11, S11, R12, S12, R13, S13, R14, S14, R15, S15, R16, S16, R17, S17, R19, S19, R20, S20, R21, S21, R22, S22, R25, S25, R26, S26, R27, S27, R30, S30, R31, S31, hBe, hBm, hmB⟩ := hM
  have i_n := h_n
  obtain ⟨n1, n2⟩ := h_n
  obtain ⟨mem0, e0⟩ : ∃ q, q = gup mem m 0 0 := ⟨_, rfl⟩
  obtain ⟨hV0, hc0⟩ := MV.code (v := 0) hmB hV
  rw [← e0] at hV0 hc0
  have hV9 := hV0
  obtain ⟨hvL, hvM, hvS, hvC, hvD, hvO, hvI, hvT⟩ := hV0
  have le1 := numS_le n ss
  have k1 := kS.1
  have l3 := hvS.1
  refine g_aload_n hC dX10_define_0 rfl ?_
  refine g_iconst hC dX10_define_1 ?_
  refine g_putI hC fdX10_84 (by assumption) rfl rfl dX10_define_2 ?_
  rw [← e0]
  refine g_iload_n hC dX10_define_5 rfl ?_
  refine g_SP hC (kX10_isName (gl X) (gD X) (gac X) n i_n) csX10_isName lkX10_100 rfl rfl (Nat.le_of_ble_eq_true rfl) (hI.fit (Nat.le_of_ble_eq_true rfl) (Nat.le_of_ble_eq_true rfl) (Nat.le_of_ble_eq_true rfl)) dX10_define_6 (fun x6 hx6 => ?_)
  refine g_if_ne (tgt := 15) hC dX10_define_9 (by decide) ⟨by omega, by omega⟩ (fun h9 => ?_) (fun h9 => ?_)
  · refine g_aload_n hC dX10_define_15 rfl ?_
    refine g_iload_n hC dX10_define_16 rfl ?_
    refine g_VP hC (kX10_setOf (gl X) (gD X) (gac X) m B ss n hM9 hvS kS i_n) cvX10_setOf lkX10_157 (by assumption) rfl rfl (Nat.le_of_ble_eq_true rfl) (hI.fit (Nat.le_of_ble_eq_true rfl) (Nat.le_of_ble_eq_true rfl) (Nat.le_of_ble_eq_true rfl)) dX10_define_17 (fun x17 hx17 => ?_)
    subst hx17
    refine g_if_le (tgt := 26) hC dX10_define_20 (by decide) ⟨by omega, by omega⟩ (fun h20 => ?_) (fun h20 => ?_)
    · refine g_aload_n hC dX10_define_26 rfl ?_
      refine g_getI hC fdX10_93 (by assumption) dX10_define_27 ?_
      refine g_bipush hC dX10_define_30 (by decide +kernel) ?_
      refine g_icmp_ne (tgt := 39) hC dX10_define_32 (by decide) ⟨by omega, by omega⟩ ⟨by omega, by omega⟩ (fun h32 => ?_) (fun h32 => ?_)
      · refine g_aload_n hC dX10_define_39 rfl ?_
        refine g_iload_n hC dX10_define_40 rfl ?_
        refine g_iload_n hC dX10_define_41 rfl ?_
        refine g_VM hC (kX10_newSet (gl X) (gD X) (gac X) m B ss n v hM9 hvS (by omega) hv) cvX10_newSet lkX10_187 (by assumption) rfl rfl (Nat.le_of_ble_eq_true rfl) (hI.fit (Nat.le_of_ble_eq_true rfl) (Nat.le_of_ble_eq_true rfl) (Nat.le_of_ble_eq_true rfl)) dX10_define_42 (fun x42 mem42 hx42 => ?_)
        refine g_iret hC hI rfl dX10_define_45 (Nat.le_of_ble_eq_true rfl) (Nat.le_of_ble_eq_true rfl) ⟨rfl, rfl, _, rfl, ?_⟩
        rw [defR, if_neg (by omega), if_neg (by omega)]
        first
        | (rw [if_neg (by omega), defS, if_neg (by omega)]
           exact ⟨rfl, ⟨hV9, hc0.2⟩⟩)
        | (rw [if_pos (by omega), defS, if_pos (by omega)]
           obtain ⟨q1, q2⟩ := hx42
           obtain ⟨n1, n2⟩ := vS_new (n := n) (g := v) hBe hBm hmB hvS
           rw [← q2] at n1 n2
           exact ⟨q1, ⟨hvL.st n2 (by decide), hvM.st n2 (by decide), n1, hvC.st n2 (by decide), hvD.st n2 (by decide), hvO.st n2 (by decide), hvI.st n2 (by decide), hvT.st n2 (by decide)⟩, chA.trans hc0.2 n2.2⟩)
      · refine g_iconst hC dX10_define_35 ?_
        refine g_goto (tgt := 45) hC dX10_define_36 (by decide) ?_
        refine g_iret hC hI rfl dX10_define_45 (Nat.le_of_ble_eq_true rfl) (Nat.le_of_ble_eq_true rfl) ⟨rfl, rfl, _, rfl, ?_⟩
        rw [defR, if_neg (by omega), if_neg (by omega)]
        first
        | (rw [if_neg (by omega), defS, if_neg (by omega)]
           exact ⟨rfl, ⟨hV9, hc0.2⟩⟩)
        | (rw [if_pos (by omega), defS, if_pos (by omega)]
           obtain ⟨q1, q2⟩ := hx42
           obtain ⟨n1, n2⟩ := vS_new (n := n) (g := v) hBe hBm hmB hvS
           rw [← q2] at n1 n2
           exact ⟨q1, ⟨hvL.st n2 (by decide), hvM.st n2 (by decide), n1, hvC.st n2 (by decide), hvD.st n2 (by decide), hvO.st n2 (by decide), hvI.st n2 (by decide), hvT.st n2 (by decide)⟩, chA.trans hc0.2 n2.2⟩)
    · refine g_bipush hC dX10_define_23 (by decide +kernel) ?_
      refine g_iret hC hI rfl dX10_define_25 (Nat.le_of_ble_eq_true rfl) (Nat.le_of_ble_eq_true rfl) ⟨rfl, rfl, _, rfl, ?_⟩
      rw [defR, if_neg (by omega), if_pos (by omega), defS, if_neg (by omega)]
      exact ⟨rfl, ⟨hV9, hc0.2⟩⟩
  · refine g_bipush hC dX10_define_12 (by decide +kernel) ?_
    refine g_iret hC hI rfl dX10_define_14 (Nat.le_of_ble_eq_true rfl) (Nat.le_of_ble_eq_true rfl) ⟨rfl, rfl, _, rfl, ?_⟩
    rw [defR, if_pos (by omega), defS, if_neg (by omega)]
    exact ⟨rfl, ⟨hV9, hc0.2⟩⟩
set_option maxHeartbeats 4000000 in
set_option maxRecDepth 100000 in
theorem kX10_record (lc : Launch) (D : va_G) (ac : Nat → ClassId) {sh : Nat → Nat × Nat} {rf : Nat → Nat → Option Nat} {mem : Nat → Nat → Int} (m : Nat) (B : Nat → Nat) (rp ex ar : List Int) (ms : List (Option MemT)) (ss : List (Option SetT)) (ch : Lns) (ds : Dfs) (lk : Nat) (g y z : Int) (n v : Int) (hM : MO sh rf m B) (hV : MV m B mem rp ms ss ch ds lk ex ar g y z) (kS : okS ss) (h_n : inR n) : gMet lc D ac mX10_record 3 [.ref m, .int (iI n), .int (iI v)] 0 0 sh rf mem (pM sh rf (fun r mem1 => r = recR ss n ∧ MV m B mem1 rp ms (recS ss n v) ch ds lk ex ar g y z ∧ chA m B mem mem1)) := by
  refine gMet.mk (by decide) (by intro v hv; simp at hv; (try rcases hv with rfl | rfl | rfl) <;> rfl) (Nat.le_of_ble_eq_true rfl) (fun X hC hI => ?_)
  show gG X sh rf mem 0 0 0 [some (.ref m), some (.int (iI n)), some (.int (iI v))] []
  have hM9 := hM
  obtain ⟨mo, R4, S4, R5, S5, R6, S6, R7, S7, R8, S8, R9, S9, R10, S10, R11, S11, R12, S12, R13, S13, R14, S14, R15, S15, R16, S16, R17, S17, R19, S19, R20, S20, R21, S21, R22, S22, R25, S25, R26, S26, R27, S27, R30, S30, R31, S31, hBe, hBm, hmB⟩ := hM
  have i_n := h_n
  obtain ⟨n1, n2⟩ := h_n
  obtain ⟨mem0, e0⟩ : ∃ q, q = gup mem m 0 0 := ⟨_, rfl⟩
  obtain ⟨hV0, hc0⟩ := MV.code (v := 0) hmB hV
  rw [← e0] at hV0 hc0
  have hV9 := hV0
  obtain ⟨hvL, hvM, hvS, hvC, hvD, hvO, hvI, hvT⟩ := hV0
  refine g_aload_n hC dX10_record_0 rfl ?_
  refine g_iconst hC dX10_record_1 ?_
  refine g_putI hC fdX10_84 (by assumption) rfl rfl dX10_record_2 ?_
  rw [← e0]
  refine g_aload_n hC dX10_record_5 rfl ?_
  refine g_iload_n hC dX10_record_6 rfl ?_
  refine g_VP hC (kX10_isSet (gl X) (gD X) (gac X) m B ss n hM9 hvS kS i_n) cvX10_isSet lkX10_154 (by assumption) rfl rfl (Nat.le_of_ble_eq_true rfl) (hI.fit (Nat.le_of_ble_eq_true rfl) (Nat.le_of_ble_eq_true rfl) (Nat.le_of_ble_eq_true rfl)) dX10_record_7 (fun x7 hx7 => ?_)
  refine g_if_ne (tgt := 16) hC dX10_record_10 (by decide) ⟨by omega, by omega⟩ (fun h10 => ?_) (fun h10 => ?_)
  · have qs : setAt ss n ≠ none := by
      rcases hx7 with ⟨-, w⟩ | ⟨w, -⟩
      · exact w
      · omega
    obtain ⟨x, ex0⟩ := Option.ne_none_iff_exists'.mp qs
    obtain ⟨K, eK, K1, K2, K3, K4, hSK, k1, k2, k3, k4, k5⟩ := setAt_view2 hvS kS ex0
    subst eK
    have l4 : mem0 (B 13) (K : Int).toNat = x.2.2.1.length := hSK.2.2.2.1
    have e5 : (60 * (K : Int) + x.2.2.1.length).toNat = 60 * K + x.2.2.1.length := by omega
    have e9 : ((K : Int) - 1).toNat = K - 1 := by omega
    have K9 : K - 1 + 1 = K := by omega
    refine g_aload_n hC dX10_record_16 rfl ?_
    refine g_getR hC fdX10_38 (by assumption) (by assumption) dX10_record_17 ?_
    refine g_iload_n hC dX10_record_20 rfl ?_
    refine g_iald hC (by assumption) (by omega) (by omega) (by decide) dX10_record_21 ?_
    refine g_bipush hC dX10_record_22 (by decide +kernel) ?_
    refine g_icmp_ne (tgt := 29) hC dX10_record_24 (by decide) ⟨by omega, by omega⟩ ⟨by omega, by omega⟩ (fun h24 => ?_) (fun h24 => ?_)
    · refine g_aload_n hC dX10_record_29 rfl ?_
      refine g_getR hC fdX10_44 (by assumption) (by assumption) dX10_record_30 ?_
      refine g_bipush hC dX10_record_33 (by decide +kernel) ?_
      refine g_iload_n hC dX10_record_35 rfl ?_
      refine g_imul hC dX10_record_36 ?_
      refine g_aload_n hC dX10_record_37 rfl ?_
      refine g_getR hC fdX10_38 (by assumption) (by assumption) dX10_record_38 ?_
      refine g_iload_n hC dX10_record_41 rfl ?_
      refine g_iald hC (by assumption) (by omega) (by omega) (by decide) dX10_record_42 ?_
      rw [l4]
      refine g_iadd hC dX10_record_43 ?_
      refine g_iload_n hC dX10_record_44 rfl ?_
      refine g_iast hC (by assumption) (by omega) (by omega) (by decide) dX10_record_45 ?_
      obtain ⟨mem2, e2⟩ : ∃ q, q = gup mem0 (B 15) (60 * (K : Int) + x.2.2.1.length).toNat v := ⟨_, rfl⟩
      rw [← e2]
      have t2 : mem2 (B 13) (K : Int).toNat = x.2.2.1.length := by rw [e2, gup_a _ _ _ _ (by simp [hBe])]; exact l4
      refine g_aload_n hC dX10_record_46 rfl ?_
      refine g_getR hC fdX10_38 (by assumption) (by assumption) dX10_record_47 ?_
      refine g_iload_n hC dX10_record_50 rfl ?_
      refine g_dup2 hC dX10_record_51 rfl rfl ?_
      refine g_iald hC (by assumption) (by omega) (by omega) (by decide) dX10_record_52 ?_
      rw [t2]
      refine g_iconst hC dX10_record_53 ?_
      refine g_iadd hC dX10_record_54 ?_
      refine g_iast hC (by assumption) (by omega) (by omega) (by decide) dX10_record_55 ?_
      obtain ⟨mem3, e3⟩ : ∃ q, q = gup mem2 (B 13) (K : Int).toNat ((x.2.2.1.length : Int) + 1) := ⟨_, rfl⟩
      rw [← e3]
      have t3 : mem3 (B 13) (K : Int).toNat = (x.2.2.1.length : Int) + 1 := by rw [e3, gup_s]
      refine g_aload_n hC dX10_record_56 rfl ?_
      refine g_getR hC fdX10_38 (by assumption) (by assumption) dX10_record_57 ?_
      refine g_iload_n hC dX10_record_60 rfl ?_
      refine g_iald hC (by assumption) (by omega) (by omega) (by decide) dX10_record_61 ?_
      refine g_iret hC hI rfl dX10_record_62 (Nat.le_of_ble_eq_true rfl) (Nat.le_of_ble_eq_true rfl) ⟨rfl, rfl, _, rfl, ?_⟩
      have u1 : recR ss K = x.2.2.1.length + 1 := by rw [recR, ex0]; exact if_pos (by omega)
      have u2 : recS ss K v = ss.set ((K : Int) - 1).toNat (some (x.1, x.2.1, x.2.2.1 ++ [v], x.2.2.2)) := by rw [recS, ex0]; exact if_pos (by omega)
      rw [u1, u2, e9]
      have c3 : chF m B mem0 mem3 [13, 15] := by rw [e3, e2]; exact ((chF.row hBe hmB).trans (chF.row hBe hmB)).mono (by decide)
      obtain ⟨h1, h2, h3, h4, h5, h6⟩ := hSK
      have sk : sB1 B mem3 K (x.1, x.2.1, x.2.2.1 ++ [v], x.2.2.2) := by
        refine ⟨by rw [(c3.1 17 (by decide)).2]; exact h1, by rw [(c3.1 12 (by decide)).2]; exact h2, by rw [(c3.1 16 (by decide)).2]; exact h3, ?_, by rw [(c3.1 14 (by decide)).2]; exact h5, fun j hj => ?_⟩
        · show mem3 (B 13) (K : Int).toNat = ((x.2.2.1 ++ [v]).length : Int)
          rw [t3, List.length_append]
          rfl
        · show _ = (x.2.2.1 ++ [v]).getD j 0
          have hj2 : j < x.2.2.1.length + 1 := by
            have : j < (x.2.2.1 ++ [v]).length := hj
            rw [List.length_append] at this
            exact this
          rw [getD_snd, e3, e2, e5]
          by_cases e : j = x.2.2.1.length
          · rw [if_pos e, e]; simp [gup, hBe]
          · rw [if_neg e]; simp [gup, hBe, e]; exact h6 j (by omega)
      have fk : frS B mem0 mem3 K := by
        refine ⟨fun j hj => ?_, fun j hj => ?_⟩
        · rw [e3, e2]; simp [gup, hBe, hj]
        · have e : j ≠ 60 * K + x.2.2.1.length := by omega
          rw [e3, e2, e5]; simp [gup, hBe, e]
      have key := vS_set (k := K - 1) hvS kS K4 (by rw [K9]; exact sk) (by rw [K9]; exact fk) (c3.1 3 (by decide)).1
      exact ⟨t3, ⟨hvL.st c3 (by decide), hvM.st c3 (by decide), key, hvC.st c3 (by decide), hvD.st c3 (by decide), hvO.st c3 (by decide), hvI.st c3 (by decide), hvT.st c3 (by decide)⟩, chA.trans hc0.2 c3.2⟩
    · refine g_iconst hC dX10_record_27 ?_
      refine g_iret hC hI rfl dX10_record_28 (Nat.le_of_ble_eq_true rfl) (Nat.le_of_ble_eq_true rfl) ⟨rfl, rfl, _, rfl, ?_⟩
      have u1 : recR ss K = -1 := by rw [recR, ex0]; exact if_neg (by omega)
      have u2 : recS ss K v = ss := by rw [recS, ex0]; exact if_neg (by omega)
      rw [u1, u2]
      exact ⟨rfl, ⟨hV9, hc0.2⟩⟩
  · refine g_bipush hC dX10_record_13 (by decide +kernel) ?_
    refine g_iret hC hI rfl dX10_record_15 (Nat.le_of_ble_eq_true rfl) (Nat.le_of_ble_eq_true rfl) ⟨rfl, rfl, _, rfl, ?_⟩
    have e9 : setAt ss n = none := (by rcases hx7 with ⟨w, -⟩ | ⟨-, w⟩; omega; exact w)
    have u1 : recR ss n = -2 := by rw [recR, e9]
    have u2 : recS ss n v = ss := by rw [recS, e9]
    rw [u1, u2]
    exact ⟨rfl, ⟨hV9, hc0.2⟩⟩
