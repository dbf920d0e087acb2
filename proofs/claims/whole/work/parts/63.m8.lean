section MB
variable {ss : List (Option SetT)}
theorem canT_some {n : Int} {x : SetT} (e : setAt ss (numS ss n) = some x) : canT ss n ↔ x.2.1 = 0 := by unfold canT; rw [e]
theorem canT_none {n : Int} (h : numS ss n = 0) : canT ss n ↔ ss.length < 20 := by
  have e : setAt ss (numS ss n) = none := setAt_far (by omega)
  unfold canT; rw [e]
theorem okS_app {n g : Int} (h : okS ss) (hl : ss.length < 20) (h2 : 0 ≤ n ∧ n < 100) (h3 : g = 0 ∨ g = 1) : okS (ss ++ [some (n, g, [], 0)]) := by
  refine ⟨by simp; omega, fun i x hx => ?_⟩
  rw [getD_appS] at hx
  by_cases e : i = ss.length
  · rw [if_pos e] at hx
    cases hx
    exact ⟨h2.1, h2.2, h3, by simp, by simp⟩
  · rw [if_neg e] at hx
    exact h.2 i x hx
end MB
set_option maxHeartbeats 4000000 in
set_option maxRecDepth 100000 in
theorem kX10_bars (lc : Launch) (D : va_G) (ac : Nat → ClassId) {sh : Nat → Nat × Nat} {rf : Nat → Nat → Option Nat} {mem : Nat → Nat → Int} (m : Nat) (B : Nat → Nat) (ss : List (Option SetT)) (n : Int) (hM : MO sh rf m B) (hv : vS m B mem ss) (hk : okS ss) (h_n : inR n) : gMet lc D ac mX10_bars 1 [.ref m, .int (iI n)] 0 0 sh rf mem (pP sh rf mem (fun r => (r = 1 ∧ ¬ canT ss n) ∨ (r = 0 ∧ canT ss n))) := by
  refine gMet.mk (by decide) (by intro v hv; simp at hv; (try rcases hv with rfl | rfl) <;> rfl) (Nat.le_of_ble_eq_true rfl) (fun X hC hI => ?_)
  show gG X sh rf mem 0 0 0 [some (.ref m), some (.int (iI n)), none] []
  have hM9 := hM
  obtain ⟨mo, R4, S4, R5, S5, R6, S6, R7, S7, R8, S8, R9, S9, R10, S10, R11, S11, R12, S12, R13, S13, R14, S14, R15, S15, R16, S16, R17, S17, R19, S19, R20, S20, R21, S21, R22, S22, R25, S25, R26, S26, R27, S27, R30, S30, R31, S31, hBe, hBm, hmB⟩ := hM
  have i_n := h_n
  obtain ⟨n1, n2⟩ := h_n
  have v1 := hv.1
  have kk := hk.1
  have le1 := numS_le n ss
  refine g_aload_n hC dX10_bars_0 rfl ?_
  refine g_iload_n hC dX10_bars_1 rfl ?_
  refine g_VP hC (kX10_setOf (gl X) (gD X) (gac X) m B ss n hM9 hv hk i_n) cvX10_setOf lkX10_157 (by assumption) rfl rfl (Nat.le_of_ble_eq_true rfl) (hI.fit (Nat.le_of_ble_eq_true rfl) (Nat.le_of_ble_eq_true rfl) (Nat.le_of_ble_eq_true rfl)) dX10_bars_2 (fun x2 hx2 => ?_)
  subst hx2
  refine g_istore_n hC 2 rfl dX10_bars_5 (Nat.le_of_ble_eq_true rfl) ?_
  dsimp only [List.set]
  refine g_iload_n hC dX10_bars_6 rfl ?_
  refine g_if_le (tgt := 19) hC dX10_bars_7 (by decide) ⟨by omega, by omega⟩ (fun h7 => ?_) (fun h7 => ?_)
  · refine g_aload_n hC dX10_bars_19 rfl ?_
    refine g_getI hC fdX10_93 (by assumption) dX10_bars_20 ?_
    refine g_bipush hC dX10_bars_23 (by decide +kernel) ?_
    refine g_icmp_ne (tgt := 32) hC dX10_bars_25 (by decide) ⟨by omega, by omega⟩ ⟨by omega, by omega⟩ (fun h25 => ?_) (fun h25 => ?_)
    · refine g_iconst hC dX10_bars_32 ?_
      refine g_zret hC hI rfl (by decide +kernel) dX10_bars_33 (Nat.le_of_ble_eq_true rfl) (Nat.le_of_ble_eq_true rfl) ⟨rfl, rfl, rfl, _, rfl, ?_⟩
      first
      | exact Or.inl ⟨rfl, fun c => by have := (canT_none (ss := ss) (n := n) (by omega)).mp c; omega⟩
      | exact Or.inr ⟨rfl, (canT_none (by omega)).mpr (by omega)⟩
      | exact Or.inl ⟨rfl, fun c => by have := (canT_some ex0).mp c; omega⟩
      | exact Or.inr ⟨rfl, (canT_some ex0).mpr (by omega)⟩
    · refine g_iconst hC dX10_bars_28 ?_
      refine g_goto (tgt := 33) hC dX10_bars_29 (by decide) ?_
      refine g_zret hC hI rfl (by decide +kernel) dX10_bars_33 (Nat.le_of_ble_eq_true rfl) (Nat.le_of_ble_eq_true rfl) ⟨rfl, rfl, rfl, _, rfl, ?_⟩
      first
      | exact Or.inl ⟨rfl, fun c => by have := (canT_none (ss := ss) (n := n) (by omega)).mp c; omega⟩
      | exact Or.inr ⟨rfl, (canT_none (by omega)).mpr (by omega)⟩
      | exact Or.inl ⟨rfl, fun c => by have := (canT_some ex0).mp c; omega⟩
      | exact Or.inr ⟨rfl, (canT_some ex0).mpr (by omega)⟩
  · obtain ⟨x, ex0, -⟩ := setAt_num (ss := ss) (n := n) (by omega)
    obtain ⟨K, eK, K1, K2, K3, K4, hSK, k1, k2, k3, k4, k5⟩ := setAt_view2 hv hk ex0
    have l2 : mem (B 16) (numS ss n : Int).toNat = x.2.1 := by rw [eK]; exact hSK.2.2.1
    refine g_aload_n hC dX10_bars_10 rfl ?_
    refine g_getR hC fdX10_47 (by assumption) (by assumption) dX10_bars_11 ?_
    refine g_iload_n hC dX10_bars_14 rfl ?_
    refine g_zald hC (by assumption) (by omega) (by omega) (by decide) dX10_bars_15 ?_
    rcases k3 with w | w
    · rw [l2, w]
      refine g_goto (tgt := 33) hC dX10_bars_16 (by decide) ?_
      refine g_zret hC hI rfl (by decide +kernel) dX10_bars_33 (Nat.le_of_ble_eq_true rfl) (Nat.le_of_ble_eq_true rfl) ⟨rfl, rfl, rfl, _, rfl, ?_⟩
      first
      | exact Or.inl ⟨rfl, fun c => by have := (canT_none (ss := ss) (n := n) (by omega)).mp c; omega⟩
      | exact Or.inr ⟨rfl, (canT_none (by omega)).mpr (by omega)⟩
      | exact Or.inl ⟨rfl, fun c => by have := (canT_some ex0).mp c; omega⟩
      | exact Or.inr ⟨rfl, (canT_some ex0).mpr (by omega)⟩
    · rw [l2, w]
      refine g_goto (tgt := 33) hC dX10_bars_16 (by decide) ?_
      refine g_zret hC hI rfl (by decide +kernel) dX10_bars_33 (Nat.le_of_ble_eq_true rfl) (Nat.le_of_ble_eq_true rfl) ⟨rfl, rfl, rfl, _, rfl, ?_⟩
      first
      | exact Or.inl ⟨rfl, fun c => by have := (canT_none (ss := ss) (n := n) (by omega)).mp c; omega⟩
      | exact Or.inr ⟨rfl, (canT_none (by omega)).mpr (by omega)⟩
      | exact Or.inl ⟨rfl, fun c => by have := (canT_some ex0).mp c; omega⟩
      | exact Or.inr ⟨rfl, (canT_some ex0).mpr (by omega)⟩
set_option maxHeartbeats 4000000 in
set_option maxRecDepth 100000 in
theorem kX10_export0 (lc : Launch) (D : va_G) (ac : Nat → ClassId) {sh : Nat → Nat × Nat} {rf : Nat → Nat → Option Nat} {mem : Nat → Nat → Int} (m : Nat) (B : Nat → Nat) (rp ex ar : List Int) (ms : List (Option MemT)) (ss : List (Option SetT)) (ch : Lns) (ds : Dfs) (lk : Nat) (g y z : Int) (n : Int) (hM : MO sh rf m B) (hV : MV m B mem rp ms ss ch ds lk ex ar g y z) (kS : okS ss) (h_n : inR n) : gMet lc D ac mX10_export0 3 [.ref m, .int (iI n)] 0 0 sh rf mem (pM sh rf (fun r mem1 => r = expR ss n ∧ MV m B mem1 rp ms ss ch ds lk (expS ss ex n) ar g y z ∧ chA m B mem mem1)) := by
  refine gMet.mk (by decide) (by intro v hv; simp at hv; (try rcases hv with rfl | rfl) <;> rfl) (Nat.le_of_ble_eq_true rfl) (fun X hC hI => ?_)
  show gG X sh rf mem 0 0 0 [some (.ref m), some (.int (iI n)), none] []
  have hM9 := hM
  obtain ⟨mo, R4, S4, R5, S5, R6, S6, R7, S7, R8, S8, R9, S9, R10, S10, R11, S11, R12, S12, R13, S13, R14, S14, R15, S15, R16, S16, R17, S17, R19, S19, R20, S20, R21, S21, R22, S22, R25, S25, R26, S26, R27, S27, R30, S30, R31, S31, hBe, hBm, hmB⟩ := hM
  have i_n := h_n
  obtain ⟨n1, n2⟩ := h_n
  obtain ⟨mem0, e0⟩ : ∃ q, q = gup mem m 0 0 := ⟨_, rfl⟩
  obtain ⟨hV0, hc0⟩ := MV.code (v := 0) hmB hV
  rw [← e0] at hV0 hc0
  have hV9 := hV0
  obtain ⟨hvL, hvM, hvS, hvC, hvD, hvO, hvI, hvT⟩ := hV0
  have J84 : ∀ (K : Nat) (x : SetT) (m0 : Nat → Nat → Int), setAt ss K = some x → 1 ≤ K ∧ K ≤ 20 → x.2.2.1.length ≤ 60 ∧ x.2.2.2 ≤ x.2.2.1.length → sB1 B m0 K x → chF m B mem0 m0 [28, 30] → m0 m 28 = 4 + 4 * (x.2.2.2 : Int) → n = K → ∀ (t k : Nat) (m1 : Nat → Nat → Int), k ≤ 4 * x.2.2.2 → 4 * x.2.2.2 < k + t → chF m B m0 m1 [30] → (∀ j, j < 4 + k → m1 (B 30) j = (expo x.1 x.2.1 x.2.2.1 x.2.2.2).getD j 0) → gG X sh rf m1 0 0 84 [some (.ref m), some (.int (iI K)), some (.int (iI k))] [] := by
    intro K x m0 ex0 hK hx hSK a0 a28 en t
    obtain ⟨k4, k5⟩ := hx
    have el := expo_len4 x.1 x.2.1 x.2.2.1 x.2.2.2 k5
    induction t with
    | zero => intro k m1 c1 c2; omega
    | succ t ih =>
      intro k m1 c1 c2 c3 c4
      have l5 : m1 (B 14) (K : Int).toNat = x.2.2.2 := by rw [(c3.1 14 (by decide)).2]; exact hSK.2.2.2.2.1
      refine g_iload_n hC dX10_export0_84 rfl ?_
      refine g_iconst hC dX10_export0_85 ?_
      refine g_aload_n hC dX10_export0_86 rfl ?_
      refine g_getR hC fdX10_41 (by assumption) (by assumption) dX10_export0_87 ?_
      refine g_iload_n hC dX10_export0_90 rfl ?_
      refine g_iald hC (by assumption) (by omega) (by omega) (by decide) dX10_export0_91 ?_
      refine g_imul hC dX10_export0_92 ?_
      refine g_icmp_ge (tgt := 137) hC dX10_export0_93 (by decide) ⟨by omega, by omega⟩ ⟨by omega, by omega⟩ (fun h93 => ?_) (fun h93 => ?_)
      · refine g_aload_n hC dX10_export0_137 rfl ?_
        refine g_getI hC fdX10_191 (by assumption) dX10_export0_138 ?_
        refine g_iret hC hI rfl dX10_export0_141 (Nat.le_of_ble_eq_true rfl) (Nat.le_of_ble_eq_true rfl) ⟨rfl, rfl, _, rfl, ?_⟩
        have u1 : expR ss n = (expo x.1 x.2.1 x.2.2.1 x.2.2.2).length := by rw [en, expR, ex0]
        have u2 : expS ss ex n = (expo x.1 x.2.1 x.2.2.1 x.2.2.2) := by rw [en, expS, ex0]
        have a4 : chF m B mem0 m1 [28, 30] := (a0.trans c3).mono (by decide)
        have u3 : m1 m 28 = (expo x.1 x.2.1 x.2.2.1 x.2.2.2).length := by rw [(c3.1 28 (by decide)).1, a28, el]; omega
        rw [u1, u2]
        exact ⟨u3, ⟨hvL.st a4 (by decide), hvM.st a4 (by decide), hvS.st a4 (by decide), hvC.st a4 (by decide), hvD.st a4 (by decide), ⟨u3, fun j hj => c4 j (by omega)⟩, hvI.st a4 (by decide), hvT.st a4 (by decide)⟩, chA.trans hc0.2 a4.2⟩
      · refine g_aload_n hC dX10_export0_96 rfl ?_
        refine g_getR hC fdX10_78 (by assumption) (by assumption) dX10_export0_97 ?_
        refine g_iconst hC dX10_export0_100 ?_
        refine g_iload_n hC dX10_export0_101 rfl ?_
        refine g_iadd hC dX10_export0_102 ?_
        refine g_aload_n hC dX10_export0_103 rfl ?_
        refine g_getR hC fdX10_44 (by assumption) (by assumption) dX10_export0_104 ?_
        refine g_bipush hC dX10_export0_107 (by decide +kernel) ?_
        refine g_iload_n hC dX10_export0_109 rfl ?_
        refine g_imul hC dX10_export0_110 ?_
        refine g_iload_n hC dX10_export0_111 rfl ?_
        refine g_iconst hC dX10_export0_112 ?_
        refine g_idiv hC dX10_export0_113 (by omega) (by omega) (by omega) (by omega) ?_
        refine g_iadd hC dX10_export0_114 ?_
        refine g_iald hC (by assumption) (by omega) (by omega) (by decide) dX10_export0_115 ?_
        have w9 : (60 * (K : Int) + (k : Int) / 4).toNat = 60 * K + k / 4 := by omega
        have w8 : m1 (B 15) (60 * (K : Int) + (k : Int) / 4).toNat = x.2.2.1.getD (k / 4) 0 := by
          rw [w9, (c3.1 15 (by decide)).2]
          exact hSK.2.2.2.2.2 _ (by omega)
        rw [w8]
        refine g_bipush hC dX10_export0_116 (by decide +kernel) ?_
        refine g_bipush hC dX10_export0_118 (by decide +kernel) ?_
        refine g_iload_n hC dX10_export0_120 rfl ?_
        refine g_iconst hC dX10_export0_121 ?_
        refine g_irem hC dX10_export0_122 (by omega) (by omega) (by omega) (by omega) ?_
        refine g_imul hC dX10_export0_123 ?_
        refine g_isub hC dX10_export0_124 ?_
        refine g_ishr hC dX10_export0_125 ?_
        refine g_sipush hC dX10_export0_126 (by decide +kernel) ?_
        refine g_iand hC dX10_export0_129 ?_
        refine g_topI (iI_shrG _ _ (by omega)) ?_
        refine g_iast hC (by assumption) (by omega) (by omega) (by decide) dX10_export0_130 ?_
        refine g_iinc hC dX10_export0_131 rfl ?_
        dsimp only [List.set]
        refine g_goto (tgt := 84) hC dX10_export0_134 (by decide) ?_
        first
        | (have hS8 := hvS.st d6 (by decide)
           have w1 : sB1 B mem6 K x := by
             obtain ⟨K', eK', -, -, -, -, w, -⟩ := setAt_view2 hS8 kS ex0
             obtain rfl : K = K' := by omega
             exact w
           refine J84 K x mem6 ex0 ⟨K1, K2⟩ ⟨k4, k5⟩ w1 (d6.mono (by decide)) ?_ rfl (4 * x.2.2.2 + 1) 0 mem6 (Nat.zero_le _) (by omega) chF.rf0 (fun j hj => ?_)
           · rw [(c6.1 28 (by decide)).1, (c5.1 28 (by decide)).1, (c4.1 28 (by decide)).1, (c3.1 28 (by decide)).1]; exact t2
           · rw [e6, e5, e4, e3]
             rcases (show j = 0 ∨ j = 1 ∨ j = 2 ∨ j = 3 by omega) with rfl | rfl | rfl | rfl <;> simp [gup, expo])
        | (refine ih (k + 1) _ (by omega) (by omega) ((c3.trans (chF.row hBe hmB)).mono (by decide)) (fun j hj => ?_)
           have e9 : (4 + (k : Int)).toNat = 4 + k := by omega
           rw [e9]
           by_cases e : j = 4 + k
           · rw [e, gup_s, expo_get k5 (by omega), show ((k % 4 : Nat) : Int) = (k : Int) % 4 by omega]
           · rw [gup_k _ _ _ _ e]
             exact c4 j (by omega))
  refine g_aload_n hC dX10_export0_0 rfl ?_
  refine g_iconst hC dX10_export0_1 ?_
  refine g_putI hC fdX10_84 (by assumption) rfl rfl dX10_export0_2 ?_
  rw [← e0]
  refine g_aload_n hC dX10_export0_5 rfl ?_
  refine g_iload_n hC dX10_export0_6 rfl ?_
  refine g_VP hC (kX10_isSet (gl X) (gD X) (gac X) m B ss n hM9 hvS kS i_n) cvX10_isSet lkX10_154 (by assumption) rfl rfl (Nat.le_of_ble_eq_true rfl) (hI.fit (Nat.le_of_ble_eq_true rfl) (Nat.le_of_ble_eq_true rfl) (Nat.le_of_ble_eq_true rfl)) dX10_export0_7 (fun x7 hx7 => ?_)
  refine g_if_ne (tgt := 16) hC dX10_export0_10 (by decide) ⟨by omega, by omega⟩ (fun h10 => ?_) (fun h10 => ?_)
  · have qs : setAt ss n ≠ none := by
      rcases hx7 with ⟨-, w⟩ | ⟨w, -⟩
      · exact w
      · omega
    obtain ⟨x, ex0⟩ := Option.ne_none_iff_exists'.mp qs
    obtain ⟨K, eK, K1, K2, K3, K4, hSK, k1, k2, k3, k4, k5⟩ := setAt_view2 hvS kS ex0
    subst eK
    have l1 : mem0 (B 12) (K : Int).toNat = x.1 := hSK.2.1
    have l2 : mem0 (B 16) (K : Int).toNat = x.2.1 := hSK.2.2.1
    have l5 : mem0 (B 14) (K : Int).toNat = x.2.2.2 := hSK.2.2.2.2.1
    refine g_aload_n hC dX10_export0_16 rfl ?_
    refine g_iconst hC dX10_export0_17 ?_
    refine g_iconst hC dX10_export0_18 ?_
    refine g_aload_n hC dX10_export0_19 rfl ?_
    refine g_getR hC fdX10_41 (by assumption) (by assumption) dX10_export0_20 ?_
    refine g_iload_n hC dX10_export0_23 rfl ?_
    refine g_iald hC (by assumption) (by omega) (by omega) (by decide) dX10_export0_24 ?_
    rw [l5]
    refine g_imul hC dX10_export0_25 ?_
    refine g_iadd hC dX10_export0_26 ?_
    refine g_putI hC fdX10_191 (by assumption) rfl rfl dX10_export0_27 ?_
    obtain ⟨mem2, e2⟩ : ∃ q, q = gup mem0 m 28 (4 + 4 * (x.2.2.2 : Int)) := ⟨_, rfl⟩
    rw [← e2]
    have c2 : chF m B mem0 mem2 [28] := by rw [e2]; exact chF.fld hmB
    have t2 : mem2 m 28 = 4 + 4 * (x.2.2.2 : Int) := by rw [e2]; exact gup_s _ _ _ _
    refine g_aload_n hC dX10_export0_30 rfl ?_
    refine g_getR hC fdX10_78 (by assumption) (by assumption) dX10_export0_31 ?_
    refine g_iconst hC dX10_export0_34 ?_
    refine g_bipush hC dX10_export0_35 (by decide +kernel) ?_
    refine g_iast hC (by assumption) (by omega) (by omega) (by decide) dX10_export0_37 ?_
    obtain ⟨mem3, e3⟩ : ∃ q, q = gup mem2 (B 30) (0 : Int).toNat 69 := ⟨_, rfl⟩
    rw [← e3]
    have c3 : chF m B mem2 mem3 [30] := by rw [e3]; exact chF.row hBe hmB
    have d3 := c2.trans c3
    refine g_aload_n hC dX10_export0_38 rfl ?_
    refine g_getR hC fdX10_78 (by assumption) (by assumption) dX10_export0_39 ?_
    refine g_iconst hC dX10_export0_42 ?_
    refine g_aload_n hC dX10_export0_43 rfl ?_
    refine g_getR hC fdX10_35 (by assumption) (by assumption) dX10_export0_44 ?_
    refine g_iload_n hC dX10_export0_47 rfl ?_
    refine g_iald hC (by assumption) (by omega) (by omega) (by decide) dX10_export0_48 ?_
    rw [(d3.1 12 (by decide)).2, l1]
    refine g_iast hC (by assumption) (by omega) (by omega) (by decide) dX10_export0_49 ?_
    obtain ⟨mem4, e4⟩ : ∃ q, q = gup mem3 (B 30) (1 : Int).toNat x.1 := ⟨_, rfl⟩
    rw [← e4]
    have c4 : chF m B mem3 mem4 [30] := by rw [e4]; exact chF.row hBe hmB
    have d4 := d3.trans c4
    have t4 : mem4 (B 16) (K : Int).toNat = x.2.1 := by rw [(d4.1 16 (by decide)).2, l2]
    refine g_aload_n hC dX10_export0_50 rfl ?_
    refine g_getR hC fdX10_78 (by assumption) (by assumption) dX10_export0_51 ?_
    refine g_iconst hC dX10_export0_54 ?_
    refine g_aload_n hC dX10_export0_55 rfl ?_
    refine g_getR hC fdX10_47 (by assumption) (by assumption) dX10_export0_56 ?_
    refine g_iload_n hC dX10_export0_59 rfl ?_
    refine g_zald hC (by assumption) (by omega) (by omega) (by decide) dX10_export0_60 ?_
    refine g_if_eq (tgt := 68) hC dX10_export0_61 (by decide) ⟨by omega, by omega⟩ (fun h61 => ?_) (fun h61 => ?_)
    · refine g_iconst hC dX10_export0_68 ?_
      refine g_topI (a := x.2.1) (congrArg iI (by omega)) ?_
      refine g_iast hC (by assumption) (by omega) (by omega) (by decide) dX10_export0_69 ?_
      obtain ⟨mem5, e5⟩ : ∃ q, q = gup mem4 (B 30) (2 : Int).toNat x.2.1 := ⟨_, rfl⟩
      rw [← e5]
      have c5 : chF m B mem4 mem5 [30] := by rw [e5]; exact chF.row hBe hmB
      have d5 := d4.trans c5
      refine g_aload_n hC dX10_export0_70 rfl ?_
      refine g_getR hC fdX10_78 (by assumption) (by assumption) dX10_export0_71 ?_
      refine g_iconst hC dX10_export0_74 ?_
      refine g_aload_n hC dX10_export0_75 rfl ?_
      refine g_getR hC fdX10_41 (by assumption) (by assumption) dX10_export0_76 ?_
      refine g_iload_n hC dX10_export0_79 rfl ?_
      refine g_iald hC (by assumption) (by omega) (by omega) (by decide) dX10_export0_80 ?_
      rw [(d5.1 14 (by decide)).2, l5]
      refine g_iast hC (by assumption) (by omega) (by omega) (by decide) dX10_export0_81 ?_
      obtain ⟨mem6, e6⟩ : ∃ q, q = gup mem5 (B 30) (3 : Int).toNat (x.2.2.2 : Int) := ⟨_, rfl⟩
      rw [← e6]
      have c6 : chF m B mem5 mem6 [30] := by rw [e6]; exact chF.row hBe hmB
      have d6 := d5.trans c6
      refine g_iconst hC dX10_export0_82 ?_
      refine g_istore_n hC 2 rfl dX10_export0_83 (Nat.le_of_ble_eq_true rfl) ?_
      dsimp only [List.set]
      first
      | (have hS8 := hvS.st d6 (by decide)
         have w1 : sB1 B mem6 K x := by
           obtain ⟨K', eK', -, -, -, -, w, -⟩ := setAt_view2 hS8 kS ex0
           obtain rfl : K = K' := by omega
           exact w
         refine J84 K x mem6 ex0 ⟨K1, K2⟩ ⟨k4, k5⟩ w1 (d6.mono (by decide)) ?_ rfl (4 * x.2.2.2 + 1) 0 mem6 (Nat.zero_le _) (by omega) chF.rf0 (fun j hj => ?_)
         · rw [(c6.1 28 (by decide)).1, (c5.1 28 (by decide)).1, (c4.1 28 (by decide)).1, (c3.1 28 (by decide)).1]; exact t2
         · rw [e6, e5, e4, e3]
           rcases (show j = 0 ∨ j = 1 ∨ j = 2 ∨ j = 3 by omega) with rfl | rfl | rfl | rfl <;> simp [gup, expo])
      | (refine ih (k + 1) _ (by omega) (by omega) ((c3.trans (chF.row hBe hmB)).mono (by decide)) (fun j hj => ?_)
         have e9 : (4 + (k : Int)).toNat = 4 + k := by omega
         rw [e9]
         by_cases e : j = 4 + k
         · rw [e, gup_s, expo_get k5 (by omega), show ((k % 4 : Nat) : Int) = (k : Int) % 4 by omega]
         · rw [gup_k _ _ _ _ e]
           exact c4 j (by omega))
    · refine g_iconst hC dX10_export0_64 ?_
      refine g_goto (tgt := 69) hC dX10_export0_65 (by decide) ?_
      refine g_topI (a := x.2.1) (congrArg iI (by omega)) ?_
      refine g_iast hC (by assumption) (by omega) (by omega) (by decide) dX10_export0_69 ?_
      obtain ⟨mem5, e5⟩ : ∃ q, q = gup mem4 (B 30) (2 : Int).toNat x.2.1 := ⟨_, rfl⟩
      rw [← e5]
      have c5 : chF m B mem4 mem5 [30] := by rw [e5]; exact chF.row hBe hmB
      have d5 := d4.trans c5
      refine g_aload_n hC dX10_export0_70 rfl ?_
      refine g_getR hC fdX10_78 (by assumption) (by assumption) dX10_export0_71 ?_
      refine g_iconst hC dX10_export0_74 ?_
      refine g_aload_n hC dX10_export0_75 rfl ?_
      refine g_getR hC fdX10_41 (by assumption) (by assumption) dX10_export0_76 ?_
      refine g_iload_n hC dX10_export0_79 rfl ?_
      refine g_iald hC (by assumption) (by omega) (by omega) (by decide) dX10_export0_80 ?_
      rw [(d5.1 14 (by decide)).2, l5]
      refine g_iast hC (by assumption) (by omega) (by omega) (by decide) dX10_export0_81 ?_
      obtain ⟨mem6, e6⟩ : ∃ q, q = gup mem5 (B 30) (3 : Int).toNat (x.2.2.2 : Int) := ⟨_, rfl⟩
      rw [← e6]
      have c6 : chF m B mem5 mem6 [30] := by rw [e6]; exact chF.row hBe hmB
      have d6 := d5.trans c6
      refine g_iconst hC dX10_export0_82 ?_
      refine g_istore_n hC 2 rfl dX10_export0_83 (Nat.le_of_ble_eq_true rfl) ?_
      dsimp only [List.set]
      first
      | (have hS8 := hvS.st d6 (by decide)
         have w1 : sB1 B mem6 K x := by
           obtain ⟨K', eK', -, -, -, -, w, -⟩ := setAt_view2 hS8 kS ex0
           obtain rfl : K = K' := by omega
           exact w
         refine J84 K x mem6 ex0 ⟨K1, K2⟩ ⟨k4, k5⟩ w1 (d6.mono (by decide)) ?_ rfl (4 * x.2.2.2 + 1) 0 mem6 (Nat.zero_le _) (by omega) chF.rf0 (fun j hj => ?_)
         · rw [(c6.1 28 (by decide)).1, (c5.1 28 (by decide)).1, (c4.1 28 (by decide)).1, (c3.1 28 (by decide)).1]; exact t2
         · rw [e6, e5, e4, e3]
           rcases (show j = 0 ∨ j = 1 ∨ j = 2 ∨ j = 3 by omega) with rfl | rfl | rfl | rfl <;> simp [gup, expo])
      | (refine ih (k + 1) _ (by omega) (by omega) ((c3.trans (chF.row hBe hmB)).mono (by decide)) (fun j hj => ?_)
         have e9 : (4 + (k : Int)).toNat = 4 + k := by omega
         rw [e9]
         by_cases e : j = 4 + k
         · rw [e, gup_s, expo_get k5 (by omega), show ((k % 4 : Nat) : Int) = (k : Int) % 4 by omega]
         · rw [gup_k _ _ _ _ e]
           exact c4 j (by omega))
  · refine g_bipush hC dX10_export0_13 (by decide +kernel) ?_
    refine g_iret hC hI rfl dX10_export0_15 (Nat.le_of_ble_eq_true rfl) (Nat.le_of_ble_eq_true rfl) ⟨rfl, rfl, _, rfl, ?_⟩
    have e9 : setAt ss n = none := (by rcases hx7 with ⟨w, -⟩ | ⟨-, w⟩; omega; exact w)
    have u1 : expR ss n = -2 := by rw [expR, e9]
    have u2 : expS ss ex n = ex := by rw [expS, e9]
    rw [u1, u2]
    exact ⟨rfl, ⟨hV9, hc0.2⟩⟩
set_option maxHeartbeats 4000000 in
set_option maxRecDepth 100000 in
theorem kX10_dump (lc : Launch) (D : va_G) (ac : Nat → ClassId) {sh : Nat → Nat × Nat} {rf : Nat → Nat → Option Nat} {mem : Nat → Nat → Int} (m : Nat) (B : Nat → Nat) (rp ex ar : List Int) (ms : List (Option MemT)) (ss : List (Option SetT)) (ch : Lns) (ds : Dfs) (lk : Nat) (g y z : Int) (i k : Int) (hM : MO sh rf m B) (hV : MV m B mem rp ms ss ch ds lk ex ar g y z) (kE : ex.length ≤ 244 ∧ ex.length % 4 = 0 ∧ ∀ j, 0 ≤ ex.getD j 0 ∧ ex.getD j 0 < 256) (h_i : inR i) (h_k : inR k) : gMet lc D ac mX10_dump 3 [.ref m, .int (iI i), .int (iI k)] 0 0 sh rf mem (pM sh rf (fun r mem1 => r = dumpS ex i k ∧ MV m B mem1 rp ms ss ch ds lk ex ar g y z ∧ chA m B mem mem1)) := by
  refine gMet.mk (by decide) (by intro v hv; simp at hv; (try rcases hv with rfl | rfl | rfl) <;> rfl) (Nat.le_of_ble_eq_true rfl) (fun X hC hI => ?_)
  show gG X sh rf mem 0 0 0 [some (.ref m), some (.int (iI i)), some (.int (iI k)), none, none, none] []
  have hM9 := hM
  obtain ⟨mo, R4, S4, R5, S5, R6, S6, R7, S7, R8, S8, R9, S9, R10, S10, R11, S11, R12, S12, R13, S13, R14, S14, R15, S15, R16, S16, R17, S17, R19, S19, R20, S20, R21, S21, R22, S22, R25, S25, R26, S26, R27, S27, R30, S30, R31, S31, hBe, hBm, hmB⟩ := hM
  have i_i := h_i
  obtain ⟨i1, i2⟩ := h_i
  have i_k := h_k
  obtain ⟨k1, k2⟩ := h_k
  obtain ⟨mem0, e0⟩ : ∃ q, q = gup mem m 0 0 := ⟨_, rfl⟩
  obtain ⟨hV0, hc0⟩ := MV.code (v := 0) hmB hV
  rw [← e0] at hV0 hc0
  have hV9 := hV0
  obtain ⟨hvL, hvM, hvS, hvC, hvD, hvO, hvI, hvT⟩ := hV0
  have o1 := hvO.1
  obtain ⟨q1, q2, q3⟩ := kE
  refine g_aload_n hC dX10_dump_0 rfl ?_
  refine g_iconst hC dX10_dump_1 ?_
  refine g_putI hC fdX10_84 (by assumption) rfl rfl dX10_dump_2 ?_
  rw [← e0]
  refine g_iload_n hC dX10_dump_5 rfl ?_
  refine g_if_lt (tgt := 29) hC dX10_dump_6 (by decide) ⟨by omega, by omega⟩ (fun h6 => ?_) (fun h6 => ?_)
  · refine g_iconst hC dX10_dump_29 ?_
    refine g_iret hC hI rfl dX10_dump_30 (Nat.le_of_ble_eq_true rfl) (Nat.le_of_ble_eq_true rfl) ⟨rfl, rfl, _, rfl, ?_⟩
    rw [dumpS, if_pos (by omega)]
    exact ⟨rfl, ⟨hV9, hc0.2⟩⟩
  · refine g_iload_n hC dX10_dump_9 rfl ?_
    refine g_if_lt (tgt := 29) hC dX10_dump_10 (by decide) ⟨by omega, by omega⟩ (fun h10 => ?_) (fun h10 => ?_)
    · refine g_iconst hC dX10_dump_29 ?_
      refine g_iret hC hI rfl dX10_dump_30 (Nat.le_of_ble_eq_true rfl) (Nat.le_of_ble_eq_true rfl) ⟨rfl, rfl, _, rfl, ?_⟩
      rw [dumpS, if_pos (by omega)]
      exact ⟨rfl, ⟨hV9, hc0.2⟩⟩
    · refine g_iload_n hC dX10_dump_13 rfl ?_
      refine g_bipush hC dX10_dump_14 (by decide +kernel) ?_
      refine g_icmp_ge (tgt := 29) hC dX10_dump_16 (by decide) ⟨by omega, by omega⟩ ⟨by omega, by omega⟩ (fun h16 => ?_) (fun h16 => ?_)
      · refine g_iconst hC dX10_dump_29 ?_
        refine g_iret hC hI rfl dX10_dump_30 (Nat.le_of_ble_eq_true rfl) (Nat.le_of_ble_eq_true rfl) ⟨rfl, rfl, _, rfl, ?_⟩
        rw [dumpS, if_pos (by omega)]
        exact ⟨rfl, ⟨hV9, hc0.2⟩⟩
      · refine g_iconst hC dX10_dump_19 ?_
        refine g_iload_n hC dX10_dump_20 rfl ?_
        refine g_imul hC dX10_dump_21 ?_
        refine g_aload_n hC dX10_dump_22 rfl ?_
        refine g_getI hC fdX10_191 (by assumption) dX10_dump_23 ?_
        refine g_icmp_lt (tgt := 31) hC dX10_dump_26 (by decide) ⟨by omega, by omega⟩ ⟨by omega, by omega⟩ (fun h26 => ?_) (fun h26 => ?_)
        · refine g_aload_n hC dX10_dump_31 rfl ?_
          refine g_getI hC fdX10_191 (by assumption) dX10_dump_32 ?_
          refine g_iconst hC dX10_dump_35 ?_
          refine g_iload_n hC dX10_dump_36 rfl ?_
          refine g_imul hC dX10_dump_37 ?_
          refine g_isub hC dX10_dump_38 ?_
          refine g_iconst hC dX10_dump_39 ?_
          refine g_icmp_ge (tgt := 54) hC dX10_dump_40 (by decide) ⟨by omega, by omega⟩ ⟨by omega, by omega⟩ (fun h40 => ?_) (fun h40 => ?_)
          · refine g_iconst hC dX10_dump_54 ?_
            refine g_istore_n hC 3 rfl dX10_dump_55 (Nat.le_of_ble_eq_true rfl) ?_
            dsimp only [List.set]
            have hD : k < 27 → dumpS ex i k = (if k < 4 then decS (4 * i) k else if k = 4 then 58 else if k < 17 then colS (ex.getD (4 * i + (k - 5) / 3).toNat 0) ((k - 5) % 3) else if k = 17 ∨ k = 22 then 32 else if k < 23 then asS (ex.getD (4 * i + k - 18).toNat 0) else othS (ex.getD (4 * i + k - 23).toNat 0)) := fun w => by rw [dumpS, if_neg (by omega)]
            refine g_iconst hC dX10_dump_56 ?_
            refine g_iload_n hC dX10_dump_57 rfl ?_
            refine g_imul hC dX10_dump_58 ?_
            refine g_istore hC dX10_dump_59 (Nat.le_of_ble_eq_true rfl) ?_
            dsimp only [List.set]
            refine g_iload_n hC dX10_dump_61 rfl ?_
            refine g_iconst hC dX10_dump_62 ?_
            refine g_icmp_ge (tgt := 114) hC dX10_dump_63 (by decide) ⟨by omega, by omega⟩ ⟨by omega, by omega⟩ (fun h63 => ?_) (fun h63 => ?_)
            · refine g_iload_n hC dX10_dump_114 rfl ?_
              refine g_iconst hC dX10_dump_115 ?_
              refine g_icmp_ne (tgt := 122) hC dX10_dump_116 (by decide) ⟨by omega, by omega⟩ ⟨by omega, by omega⟩ (fun h116 => ?_) (fun h116 => ?_)
              · refine g_iload_n hC dX10_dump_122 rfl ?_
                refine g_iconst hC dX10_dump_123 ?_
                refine g_isub hC dX10_dump_124 ?_
                refine g_istore hC dX10_dump_125 (Nat.le_of_ble_eq_true rfl) ?_
                dsimp only [List.set]
                refine g_iload hC dX10_dump_127 rfl ?_
                refine g_iconst hC dX10_dump_129 ?_
                refine g_iload_n hC dX10_dump_130 rfl ?_
                refine g_imul hC dX10_dump_131 ?_
                refine g_icmp_ge (tgt := 180) hC dX10_dump_132 (by decide) ⟨by omega, by omega⟩ ⟨by omega, by omega⟩ (fun h132 => ?_) (fun h132 => ?_)
                · refine g_iload hC dX10_dump_180 rfl ?_
                  refine g_iconst hC dX10_dump_182 ?_
                  refine g_iload_n hC dX10_dump_183 rfl ?_
                  refine g_imul hC dX10_dump_184 ?_
                  refine g_isub hC dX10_dump_185 ?_
                  refine g_istore hC dX10_dump_186 (Nat.le_of_ble_eq_true rfl) ?_
                  dsimp only [List.set]
                  refine g_iload hC dX10_dump_188 rfl ?_
                  refine g_if_eq (tgt := 201) hC dX10_dump_190 (by decide) ⟨by omega, by omega⟩ (fun h190 => ?_) (fun h190 => ?_)
                  · refine g_bipush hC dX10_dump_201 (by decide +kernel) ?_
                    refine g_iret hC hI rfl dX10_dump_203 (Nat.le_of_ble_eq_true rfl) (Nat.le_of_ble_eq_true rfl) ⟨rfl, rfl, _, rfl, ?_⟩
                    rw [hD (by omega), if_neg (by omega), if_neg (by omega), if_neg (by omega), if_pos (by omega)]
                    exact ⟨rfl, ⟨hV9, hc0.2⟩⟩
                  · refine g_iload hC dX10_dump_193 rfl ?_
                    refine g_iload_n hC dX10_dump_195 rfl ?_
                    refine g_iconst hC dX10_dump_196 ?_
                    refine g_iadd hC dX10_dump_197 ?_
                    refine g_icmp_ne (tgt := 204) hC dX10_dump_198 (by decide) ⟨by omega, by omega⟩ ⟨by omega, by omega⟩ (fun h198 => ?_) (fun h198 => ?_)
                    · refine g_iload hC dX10_dump_204 rfl ?_
                      refine g_iload_n hC dX10_dump_206 rfl ?_
                      refine g_icmp_gt (tgt := 246) hC dX10_dump_207 (by decide) ⟨by omega, by omega⟩ ⟨by omega, by omega⟩ (fun h207 => ?_) (fun h207 => ?_)
                      · refine g_iload hC dX10_dump_246 rfl ?_
                        refine g_iconst hC dX10_dump_248 ?_
                        refine g_iload_n hC dX10_dump_249 rfl ?_
                        refine g_imul hC dX10_dump_250 ?_
                        refine g_iconst hC dX10_dump_251 ?_
                        refine g_iadd hC dX10_dump_252 ?_
                        refine g_icmp_gt (tgt := 276) hC dX10_dump_253 (by decide) ⟨by omega, by omega⟩ ⟨by omega, by omega⟩ (fun h253 => ?_) (fun h253 => ?_)
                        · refine g_iconst hC dX10_dump_276 ?_
                          refine g_iret hC hI rfl dX10_dump_277 (Nat.le_of_ble_eq_true rfl) (Nat.le_of_ble_eq_true rfl) ⟨rfl, rfl, _, rfl, ?_⟩
                          first
                          | (rw [dumpS, if_pos (by omega)]; exact ⟨rfl, ⟨hV9, hc0.2⟩⟩)
                          | (rw [hD (by omega), if_neg (by omega), if_neg (by omega), if_neg (by omega), if_neg (by omega), if_neg (by omega)]; exact ⟨hx270, ⟨hV9, hc0.2⟩⟩)
                        · refine g_aload_n hC dX10_dump_256 rfl ?_
                          refine g_getR hC fdX10_78 (by assumption) (by assumption) dX10_dump_257 ?_
                          refine g_iload hC dX10_dump_260 rfl ?_
                          refine g_iload hC dX10_dump_262 rfl ?_
                          refine g_iadd hC dX10_dump_264 ?_
                          refine g_iload_n hC dX10_dump_265 rfl ?_
                          refine g_isub hC dX10_dump_266 ?_
                          refine g_iconst hC dX10_dump_267 ?_
                          refine g_isub hC dX10_dump_268 ?_
                          refine g_iald hC (by assumption) (by omega) (by omega) (by decide) dX10_dump_269 ?_
                          have w8 : mem0 (B 30) (4 * i + (k - 5 - 3 * 4) - 4 - 2).toNat = ex.getD (4 * i + k - 23).toNat 0 := by
                            have w9 : (4 * i + (k - 5 - 3 * 4) - 4 - 2).toNat = (4 * i + k - 23).toNat := by omega
                            rw [w9]; exact hvO.2 _ (by omega)
                          obtain ⟨w6, w7⟩ := q3 (4 * i + k - 23).toNat
                          rw [w8]
                          refine g_SP hC (kX10_other (gl X) (gD X) (gac X) _ ⟨by omega, by omega⟩) csX10_other lkX10_203 rfl rfl (Nat.le_of_ble_eq_true rfl) (hI.fit (Nat.le_of_ble_eq_true rfl) (Nat.le_of_ble_eq_true rfl) (Nat.le_of_ble_eq_true rfl)) dX10_dump_270 (fun x270 hx270 => ?_)
                          refine g_goto (tgt := 277) hC dX10_dump_273 (by decide) ?_
                          refine g_iret hC hI rfl dX10_dump_277 (Nat.le_of_ble_eq_true rfl) (Nat.le_of_ble_eq_true rfl) ⟨rfl, rfl, _, rfl, ?_⟩
                          first
                          | (rw [dumpS, if_pos (by omega)]; exact ⟨rfl, ⟨hV9, hc0.2⟩⟩)
                          | (rw [hD (by omega), if_neg (by omega), if_neg (by omega), if_neg (by omega), if_neg (by omega), if_neg (by omega)]; exact ⟨hx270, ⟨hV9, hc0.2⟩⟩)
                      · refine g_aload_n hC dX10_dump_210 rfl ?_
                        refine g_getR hC fdX10_78 (by assumption) (by assumption) dX10_dump_211 ?_
                        refine g_iload hC dX10_dump_214 rfl ?_
                        refine g_iload hC dX10_dump_216 rfl ?_
                        refine g_iadd hC dX10_dump_218 ?_
                        refine g_iconst hC dX10_dump_219 ?_
                        refine g_isub hC dX10_dump_220 ?_
                        refine g_iald hC (by assumption) (by omega) (by omega) (by decide) dX10_dump_221 ?_
                        have w8 : mem0 (B 30) (4 * i + (k - 5 - 3 * 4) - 1).toNat = ex.getD (4 * i + k - 18).toNat 0 := by
                          have w9 : (4 * i + (k - 5 - 3 * 4) - 1).toNat = (4 * i + k - 18).toNat := by omega
                          rw [w9]; exact hvO.2 _ (by omega)
                        obtain ⟨w6, w7⟩ := q3 (4 * i + k - 18).toNat
                        rw [w8]
                        refine g_SP hC (kX10_isSign (gl X) (gD X) (gac X) _ ⟨by omega, by omega⟩) csX10_isSign lkX10_120 rfl rfl (Nat.le_of_ble_eq_true rfl) (hI.fit (Nat.le_of_ble_eq_true rfl) (Nat.le_of_ble_eq_true rfl) (Nat.le_of_ble_eq_true rfl)) dX10_dump_222 (fun x222 hx222 => ?_)
                        refine g_if_eq (tgt := 243) hC dX10_dump_225 (by decide) ⟨by omega, by omega⟩ (fun h225 => ?_) (fun h225 => ?_)
                        · refine g_bipush hC dX10_dump_243 (by decide +kernel) ?_
                          refine g_iret hC hI rfl dX10_dump_245 (Nat.le_of_ble_eq_true rfl) (Nat.le_of_ble_eq_true rfl) ⟨rfl, rfl, _, rfl, ?_⟩
                          rw [hD (by omega), if_neg (by omega), if_neg (by omega), if_neg (by omega), if_neg (by omega), if_pos (by omega), asS]
                          first
                          | (rw [if_pos (by omega)]; exact ⟨rfl, ⟨hV9, hc0.2⟩⟩)
                          | (rw [if_neg (by omega)]; exact ⟨rfl, ⟨hV9, hc0.2⟩⟩)
                        · refine g_aload_n hC dX10_dump_228 rfl ?_
                          refine g_getR hC fdX10_78 (by assumption) (by assumption) dX10_dump_229 ?_
                          refine g_iload hC dX10_dump_232 rfl ?_
                          refine g_iload hC dX10_dump_234 rfl ?_
                          refine g_iadd hC dX10_dump_236 ?_
                          refine g_iconst hC dX10_dump_237 ?_
                          refine g_isub hC dX10_dump_238 ?_
                          refine g_iald hC (by assumption) (by omega) (by omega) (by decide) dX10_dump_239 ?_
                          rw [w8]
                          refine g_goto (tgt := 245) hC dX10_dump_240 (by decide) ?_
                          refine g_iret hC hI rfl dX10_dump_245 (Nat.le_of_ble_eq_true rfl) (Nat.le_of_ble_eq_true rfl) ⟨rfl, rfl, _, rfl, ?_⟩
                          rw [hD (by omega), if_neg (by omega), if_neg (by omega), if_neg (by omega), if_neg (by omega), if_pos (by omega), asS]
                          first
                          | (rw [if_pos (by omega)]; exact ⟨rfl, ⟨hV9, hc0.2⟩⟩)
                          | (rw [if_neg (by omega)]; exact ⟨rfl, ⟨hV9, hc0.2⟩⟩)
                    · refine g_bipush hC dX10_dump_201 (by decide +kernel) ?_
                      refine g_iret hC hI rfl dX10_dump_203 (Nat.le_of_ble_eq_true rfl) (Nat.le_of_ble_eq_true rfl) ⟨rfl, rfl, _, rfl, ?_⟩
                      rw [hD (by omega), if_neg (by omega), if_neg (by omega), if_neg (by omega), if_pos (by omega)]
                      exact ⟨rfl, ⟨hV9, hc0.2⟩⟩
                · refine g_iload hC dX10_dump_135 rfl ?_
                  refine g_iconst hC dX10_dump_137 ?_
                  refine g_irem hC dX10_dump_138 (by omega) (by omega) (by omega) (by omega) ?_
                  refine g_if_ne (tgt := 147) hC dX10_dump_139 (by decide) ⟨by omega, by omega⟩ (fun h139 => ?_) (fun h139 => ?_)
                  · refine g_aload_n hC dX10_dump_147 rfl ?_
                    refine g_getR hC fdX10_78 (by assumption) (by assumption) dX10_dump_148 ?_
                    refine g_iload hC dX10_dump_151 rfl ?_
                    refine g_iload hC dX10_dump_153 rfl ?_
                    refine g_iconst hC dX10_dump_155 ?_
                    refine g_idiv hC dX10_dump_156 (by omega) (by omega) (by omega) (by omega) ?_
                    refine g_iadd hC dX10_dump_157 ?_
                    refine g_iald hC (by assumption) (by omega) (by omega) (by decide) dX10_dump_158 ?_
                    have w8 : mem0 (B 30) (4 * i + (k - 5) / 3).toNat = ex.getD (4 * i + (k - 5) / 3).toNat 0 := hvO.2 _ (by omega)
                    obtain ⟨w6, w7⟩ := q3 (4 * i + (k - 5) / 3).toNat
                    rw [w8]
                    refine g_iload hC dX10_dump_159 rfl ?_
                    refine g_iconst hC dX10_dump_161 ?_
                    refine g_irem hC dX10_dump_162 (by omega) (by omega) (by omega) (by omega) ?_
                    refine g_iconst hC dX10_dump_163 ?_
                    refine g_icmp_ne (tgt := 171) hC dX10_dump_164 (by decide) ⟨by omega, by omega⟩ ⟨by omega, by omega⟩ (fun h164 => ?_) (fun h164 => ?_)
                    · refine g_iconst hC dX10_dump_171 ?_
                      refine g_ishr hC dX10_dump_172 ?_
                      first | refine g_topI (iI_shr4 w6 (by omega)) ?_ | refine g_topI (iI_shr0 _) ?_
                      refine g_bipush hC dX10_dump_173 (by decide +kernel) ?_
                      refine g_iand hC dX10_dump_175 ?_
                      refine g_topI (iI_and15 _) ?_
                      refine g_SP hC (kX10_hex (gl X) (gD X) (gac X) _ ⟨by omega, by omega⟩) csX10_hex lkX10_200 rfl rfl (Nat.le_of_ble_eq_true rfl) (hI.fit (Nat.le_of_ble_eq_true rfl) (Nat.le_of_ble_eq_true rfl) (Nat.le_of_ble_eq_true rfl)) dX10_dump_176 (fun x176 hx176 => ?_)
                      refine g_iret hC hI rfl dX10_dump_179 (Nat.le_of_ble_eq_true rfl) (Nat.le_of_ble_eq_true rfl) ⟨rfl, rfl, _, rfl, ?_⟩
                      rw [hD (by omega), if_neg (by omega), if_neg (by omega), if_pos (by omega), colS]
                      first
                      | (rw [if_pos (by omega)]; exact ⟨rfl, ⟨hV9, hc0.2⟩⟩)
                      | (rw [if_neg (by omega), if_pos (by omega)]
                         refine ⟨?_, ⟨hV9, hc0.2⟩⟩
                         rw [hx176]
                         congr 1
                         omega)
                      | (rw [if_neg (by omega), if_neg (by omega)]
                         exact ⟨hx176, ⟨hV9, hc0.2⟩⟩)
                    · refine g_iconst hC dX10_dump_167 ?_
                      refine g_goto (tgt := 172) hC dX10_dump_168 (by decide) ?_
                      refine g_ishr hC dX10_dump_172 ?_
                      first | refine g_topI (iI_shr4 w6 (by omega)) ?_ | refine g_topI (iI_shr0 _) ?_
                      refine g_bipush hC dX10_dump_173 (by decide +kernel) ?_
                      refine g_iand hC dX10_dump_175 ?_
                      refine g_topI (iI_and15 _) ?_
                      refine g_SP hC (kX10_hex (gl X) (gD X) (gac X) _ ⟨by omega, by omega⟩) csX10_hex lkX10_200 rfl rfl (Nat.le_of_ble_eq_true rfl) (hI.fit (Nat.le_of_ble_eq_true rfl) (Nat.le_of_ble_eq_true rfl) (Nat.le_of_ble_eq_true rfl)) dX10_dump_176 (fun x176 hx176 => ?_)
                      refine g_iret hC hI rfl dX10_dump_179 (Nat.le_of_ble_eq_true rfl) (Nat.le_of_ble_eq_true rfl) ⟨rfl, rfl, _, rfl, ?_⟩
                      rw [hD (by omega), if_neg (by omega), if_neg (by omega), if_pos (by omega), colS]
                      first
                      | (rw [if_pos (by omega)]; exact ⟨rfl, ⟨hV9, hc0.2⟩⟩)
                      | (rw [if_neg (by omega), if_pos (by omega)]
                         refine ⟨?_, ⟨hV9, hc0.2⟩⟩
                         rw [hx176]
                         congr 1
                         omega)
                      | (rw [if_neg (by omega), if_neg (by omega)]
                         exact ⟨hx176, ⟨hV9, hc0.2⟩⟩)
                  · refine g_bipush hC dX10_dump_142 (by decide +kernel) ?_
                    refine g_goto (tgt := 179) hC dX10_dump_144 (by decide) ?_
                    refine g_iret hC hI rfl dX10_dump_179 (Nat.le_of_ble_eq_true rfl) (Nat.le_of_ble_eq_true rfl) ⟨rfl, rfl, _, rfl, ?_⟩
                    rw [hD (by omega), if_neg (by omega), if_neg (by omega), if_pos (by omega), colS]
                    first
                    | (rw [if_pos (by omega)]; exact ⟨rfl, ⟨hV9, hc0.2⟩⟩)
                    | (rw [if_neg (by omega), if_pos (by omega)]
                       refine ⟨?_, ⟨hV9, hc0.2⟩⟩
                       rw [hx176]
                       congr 1
                       omega)
                    | (rw [if_neg (by omega), if_neg (by omega)]
                       exact ⟨hx176, ⟨hV9, hc0.2⟩⟩)
              · refine g_bipush hC dX10_dump_119 (by decide +kernel) ?_
                refine g_iret hC hI rfl dX10_dump_121 (Nat.le_of_ble_eq_true rfl) (Nat.le_of_ble_eq_true rfl) ⟨rfl, rfl, _, rfl, ?_⟩
                rw [hD (by omega), if_neg (by omega), if_pos (by omega)]
                exact ⟨rfl, ⟨hV9, hc0.2⟩⟩
            · refine g_bipush hC dX10_dump_66 (by decide +kernel) ?_
              refine g_iload_n hC dX10_dump_68 rfl ?_
              refine g_if_ne (tgt := 81) hC dX10_dump_69 (by decide) ⟨by omega, by omega⟩ (fun h69 => ?_) (fun h69 => ?_)
              · refine g_iload_n hC dX10_dump_81 rfl ?_
                refine g_iconst hC dX10_dump_82 ?_
                refine g_icmp_ne (tgt := 94) hC dX10_dump_83 (by decide) ⟨by omega, by omega⟩ ⟨by omega, by omega⟩ (fun h83 => ?_) (fun h83 => ?_)
                · refine g_iload_n hC dX10_dump_94 rfl ?_
                  refine g_iconst hC dX10_dump_95 ?_
                  refine g_icmp_ne (tgt := 107) hC dX10_dump_96 (by decide) ⟨by omega, by omega⟩ ⟨by omega, by omega⟩ (fun h96 => ?_) (fun h96 => ?_)
                  · refine g_iload hC dX10_dump_107 rfl ?_
                    refine g_bipush hC dX10_dump_109 (by decide +kernel) ?_
                    refine g_irem hC dX10_dump_111 (by omega) (by omega) (by omega) (by omega) ?_
                    refine g_iadd hC dX10_dump_112 ?_
                    refine g_iret hC hI rfl dX10_dump_113 (Nat.le_of_ble_eq_true rfl) (Nat.le_of_ble_eq_true rfl) ⟨rfl, rfl, _, rfl, ?_⟩
                    rw [hD (by omega), if_pos (by omega), decS]
                    first
                    | (rw [if_pos (by omega)]; exact ⟨rfl, ⟨hV9, hc0.2⟩⟩)
                    | (rw [if_neg (by omega), if_pos (by omega)]; exact ⟨rfl, ⟨hV9, hc0.2⟩⟩)
                    | (rw [if_neg (by omega), if_neg (by omega), if_pos (by omega)]; exact ⟨rfl, ⟨hV9, hc0.2⟩⟩)
                    | (rw [if_neg (by omega), if_neg (by omega), if_neg (by omega)]; exact ⟨rfl, ⟨hV9, hc0.2⟩⟩)
                  · refine g_iload hC dX10_dump_99 rfl ?_
                    refine g_bipush hC dX10_dump_101 (by decide +kernel) ?_
                    refine g_idiv hC dX10_dump_103 (by omega) (by omega) (by omega) (by omega) ?_
                    refine g_goto (tgt := 109) hC dX10_dump_104 (by decide) ?_
                    refine g_bipush hC dX10_dump_109 (by decide +kernel) ?_
                    refine g_irem hC dX10_dump_111 (by omega) (by omega) (by omega) (by omega) ?_
                    refine g_iadd hC dX10_dump_112 ?_
                    refine g_iret hC hI rfl dX10_dump_113 (Nat.le_of_ble_eq_true rfl) (Nat.le_of_ble_eq_true rfl) ⟨rfl, rfl, _, rfl, ?_⟩
                    rw [hD (by omega), if_pos (by omega), decS]
                    first
                    | (rw [if_pos (by omega)]; exact ⟨rfl, ⟨hV9, hc0.2⟩⟩)
                    | (rw [if_neg (by omega), if_pos (by omega)]; exact ⟨rfl, ⟨hV9, hc0.2⟩⟩)
                    | (rw [if_neg (by omega), if_neg (by omega), if_pos (by omega)]; exact ⟨rfl, ⟨hV9, hc0.2⟩⟩)
                    | (rw [if_neg (by omega), if_neg (by omega), if_neg (by omega)]; exact ⟨rfl, ⟨hV9, hc0.2⟩⟩)
                · refine g_iload hC dX10_dump_86 rfl ?_
                  refine g_bipush hC dX10_dump_88 (by decide +kernel) ?_
                  refine g_idiv hC dX10_dump_90 (by omega) (by omega) (by omega) (by omega) ?_
                  refine g_goto (tgt := 109) hC dX10_dump_91 (by decide) ?_
                  refine g_bipush hC dX10_dump_109 (by decide +kernel) ?_
                  refine g_irem hC dX10_dump_111 (by omega) (by omega) (by omega) (by omega) ?_
                  refine g_iadd hC dX10_dump_112 ?_
                  refine g_iret hC hI rfl dX10_dump_113 (Nat.le_of_ble_eq_true rfl) (Nat.le_of_ble_eq_true rfl) ⟨rfl, rfl, _, rfl, ?_⟩
                  rw [hD (by omega), if_pos (by omega), decS]
                  first
                  | (rw [if_pos (by omega)]; exact ⟨rfl, ⟨hV9, hc0.2⟩⟩)
                  | (rw [if_neg (by omega), if_pos (by omega)]; exact ⟨rfl, ⟨hV9, hc0.2⟩⟩)
                  | (rw [if_neg (by omega), if_neg (by omega), if_pos (by omega)]; exact ⟨rfl, ⟨hV9, hc0.2⟩⟩)
                  | (rw [if_neg (by omega), if_neg (by omega), if_neg (by omega)]; exact ⟨rfl, ⟨hV9, hc0.2⟩⟩)
              · refine g_iload hC dX10_dump_72 rfl ?_
                refine g_sipush hC dX10_dump_74 (by decide +kernel) ?_
                refine g_idiv hC dX10_dump_77 (by omega) (by omega) (by omega) (by omega) ?_
                refine g_goto (tgt := 109) hC dX10_dump_78 (by decide) ?_
                refine g_bipush hC dX10_dump_109 (by decide +kernel) ?_
                refine g_irem hC dX10_dump_111 (by omega) (by omega) (by omega) (by omega) ?_
                refine g_iadd hC dX10_dump_112 ?_
                refine g_iret hC hI rfl dX10_dump_113 (Nat.le_of_ble_eq_true rfl) (Nat.le_of_ble_eq_true rfl) ⟨rfl, rfl, _, rfl, ?_⟩
                rw [hD (by omega), if_pos (by omega), decS]
                first
                | (rw [if_pos (by omega)]; exact ⟨rfl, ⟨hV9, hc0.2⟩⟩)
                | (rw [if_neg (by omega), if_pos (by omega)]; exact ⟨rfl, ⟨hV9, hc0.2⟩⟩)
                | (rw [if_neg (by omega), if_neg (by omega), if_pos (by omega)]; exact ⟨rfl, ⟨hV9, hc0.2⟩⟩)
                | (rw [if_neg (by omega), if_neg (by omega), if_neg (by omega)]; exact ⟨rfl, ⟨hV9, hc0.2⟩⟩)
          · exfalso; omega
        · refine g_iconst hC dX10_dump_29 ?_
          refine g_iret hC hI rfl dX10_dump_30 (Nat.le_of_ble_eq_true rfl) (Nat.le_of_ble_eq_true rfl) ⟨rfl, rfl, _, rfl, ?_⟩
          rw [dumpS, if_pos (by omega)]
          exact ⟨rfl, ⟨hV9, hc0.2⟩⟩
