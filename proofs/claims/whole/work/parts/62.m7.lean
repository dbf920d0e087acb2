set_option maxHeartbeats 4000000 in
set_option maxRecDepth 100000 in
theorem kX10_differ (lc : Launch) (D : va_G) (ac : Nat → ClassId) {sh : Nat → Nat × Nat} {rf : Nat → Nat → Option Nat} {mem : Nat → Nat → Int} (m : Nat) (B : Nat → Nat) (rp ex ar : List Int) (ms : List (Option MemT)) (ss : List (Option SetT)) (ch : Lns) (ds : Dfs) (lk : Nat) (g y z : Int) (i w : Int) (hM : MO sh rf m B) (hV : MV m B mem rp ms ss ch ds lk ex ar g y z) (kD : ds.length ≤ 60) (h_i : inR i) (h_w : inR w) : gMet lc D ac mX10_differ 3 [.ref m, .int (iI i), .int (iI w)] 0 0 sh rf mem (pM sh rf (fun r mem1 => r = tellD ds i w ∧ MV m B mem1 rp ms ss ch ds lk ex ar g y z ∧ chA m B mem mem1)) := by
  refine gMet.mk (by decide) (by intro v hv; simp at hv; (try rcases hv with rfl | rfl | rfl) <;> rfl) (Nat.le_of_ble_eq_true rfl) (fun X hC hI => ?_)
  show gG X sh rf mem 0 0 0 [some (.ref m), some (.int (iI i)), some (.int (iI w))] []
  have hM9 := hM
  obtain ⟨mo, R4, S4, R5, S5, R6, S6, R7, S7, R8, S8, R9, S9, R10, S10, R11, S11, R12, S12, R13, S13, R14, S14, R15, S15, R16, S16, R17, S17, R19, S19, R20, S20, R21, S21, R22, S22, R25, S25, R26, S26, R27, S27, R30, S30, R31, S31, hBe, hBm, hmB⟩ := hM
  have i_i := h_i
  obtain ⟨i1, i2⟩ := h_i
  have i_w := h_w
  obtain ⟨w1, w2⟩ := h_w
  obtain ⟨mem0, e0⟩ : ∃ q, q = gup mem m 0 0 := ⟨_, rfl⟩
  obtain ⟨hV0, hc0⟩ := MV.code (v := 0) hmB hV
  rw [← e0] at hV0 hc0
  have hV9 := hV0
  obtain ⟨hvL, hvM, hvS, hvC, hvD, hvO, hvI, hvT⟩ := hV0
  have d1 := hvD.1
  have d3 : 0 ≤ i → i < ds.length → mem0 (B 25) i.toNat = (df ds i.toNat).1 ∧ mem0 (B 26) i.toNat = (df ds i.toNat).2.1 ∧ mem0 (B 27) i.toNat = (df ds i.toNat).2.2 := fun _ _ => hvD.2.2 i.toNat (by omega)
  refine g_aload_n hC dX10_differ_0 rfl ?_
  refine g_iconst hC dX10_differ_1 ?_
  refine g_putI hC fdX10_84 (by assumption) rfl rfl dX10_differ_2 ?_
  rw [← e0]
  refine g_iload_n hC dX10_differ_5 rfl ?_
  refine g_if_lt (tgt := 17) hC dX10_differ_6 (by decide) ⟨by omega, by omega⟩ (fun h6 => ?_) (fun h6 => ?_)
  · refine g_iconst hC dX10_differ_17 ?_
    refine g_iret hC hI rfl dX10_differ_18 (Nat.le_of_ble_eq_true rfl) (Nat.le_of_ble_eq_true rfl) ⟨rfl, rfl, _, rfl, ?_⟩
    rw [tellD, if_pos (by omega)]
    exact ⟨rfl, ⟨hV9, hc0.2⟩⟩
  · refine g_iload_n hC dX10_differ_9 rfl ?_
    refine g_aload_n hC dX10_differ_10 rfl ?_
    refine g_getI hC fdX10_164 (by assumption) dX10_differ_11 ?_
    refine g_icmp_lt (tgt := 19) hC dX10_differ_14 (by decide) ⟨by omega, by omega⟩ ⟨by omega, by omega⟩ (fun h14 => ?_) (fun h14 => ?_)
    · refine g_iload_n hC dX10_differ_19 rfl ?_
      refine g_if_ne (tgt := 32) hC dX10_differ_20 (by decide) ⟨by omega, by omega⟩ (fun h20 => ?_) (fun h20 => ?_)
      · refine g_iload_n hC dX10_differ_32 rfl ?_
        refine g_iconst hC dX10_differ_33 ?_
        refine g_icmp_ne (tgt := 46) hC dX10_differ_34 (by decide) ⟨by omega, by omega⟩ ⟨by omega, by omega⟩ (fun h34 => ?_) (fun h34 => ?_)
        · refine g_iload_n hC dX10_differ_46 rfl ?_
          refine g_iconst hC dX10_differ_47 ?_
          refine g_icmp_ne (tgt := 60) hC dX10_differ_48 (by decide) ⟨by omega, by omega⟩ ⟨by omega, by omega⟩ (fun h48 => ?_) (fun h48 => ?_)
          · refine g_iconst hC dX10_differ_60 ?_
            refine g_iret hC hI rfl dX10_differ_61 (Nat.le_of_ble_eq_true rfl) (Nat.le_of_ble_eq_true rfl) ⟨rfl, rfl, _, rfl, ?_⟩
            obtain ⟨u1, u2, u3⟩ := d3 (by omega) (by omega)
            rw [tellD, if_neg (by omega)]
            first
            | (rw [if_pos (by omega), u1]; exact ⟨rfl, ⟨hV9, hc0.2⟩⟩)
            | (rw [if_neg (by omega), if_pos (by omega), u2]; exact ⟨rfl, ⟨hV9, hc0.2⟩⟩)
            | (rw [if_neg (by omega), if_neg (by omega), if_pos (by omega), u3]; exact ⟨rfl, ⟨hV9, hc0.2⟩⟩)
            | (rw [if_neg (by omega), if_neg (by omega), if_neg (by omega)]; exact ⟨rfl, ⟨hV9, hc0.2⟩⟩)
          · refine g_aload_n hC dX10_differ_51 rfl ?_
            refine g_getR hC fdX10_75 (by assumption) (by assumption) dX10_differ_52 ?_
            refine g_iload_n hC dX10_differ_55 rfl ?_
            refine g_iald hC (by assumption) (by omega) (by omega) (by decide) dX10_differ_56 ?_
            refine g_goto (tgt := 61) hC dX10_differ_57 (by decide) ?_
            refine g_iret hC hI rfl dX10_differ_61 (Nat.le_of_ble_eq_true rfl) (Nat.le_of_ble_eq_true rfl) ⟨rfl, rfl, _, rfl, ?_⟩
            obtain ⟨u1, u2, u3⟩ := d3 (by omega) (by omega)
            rw [tellD, if_neg (by omega)]
            first
            | (rw [if_pos (by omega), u1]; exact ⟨rfl, ⟨hV9, hc0.2⟩⟩)
            | (rw [if_neg (by omega), if_pos (by omega), u2]; exact ⟨rfl, ⟨hV9, hc0.2⟩⟩)
            | (rw [if_neg (by omega), if_neg (by omega), if_pos (by omega), u3]; exact ⟨rfl, ⟨hV9, hc0.2⟩⟩)
            | (rw [if_neg (by omega), if_neg (by omega), if_neg (by omega)]; exact ⟨rfl, ⟨hV9, hc0.2⟩⟩)
        · refine g_aload_n hC dX10_differ_37 rfl ?_
          refine g_getR hC fdX10_72 (by assumption) (by assumption) dX10_differ_38 ?_
          refine g_iload_n hC dX10_differ_41 rfl ?_
          refine g_iald hC (by assumption) (by omega) (by omega) (by decide) dX10_differ_42 ?_
          refine g_goto (tgt := 61) hC dX10_differ_43 (by decide) ?_
          refine g_iret hC hI rfl dX10_differ_61 (Nat.le_of_ble_eq_true rfl) (Nat.le_of_ble_eq_true rfl) ⟨rfl, rfl, _, rfl, ?_⟩
          obtain ⟨u1, u2, u3⟩ := d3 (by omega) (by omega)
          rw [tellD, if_neg (by omega)]
          first
          | (rw [if_pos (by omega), u1]; exact ⟨rfl, ⟨hV9, hc0.2⟩⟩)
          | (rw [if_neg (by omega), if_pos (by omega), u2]; exact ⟨rfl, ⟨hV9, hc0.2⟩⟩)
          | (rw [if_neg (by omega), if_neg (by omega), if_pos (by omega), u3]; exact ⟨rfl, ⟨hV9, hc0.2⟩⟩)
          | (rw [if_neg (by omega), if_neg (by omega), if_neg (by omega)]; exact ⟨rfl, ⟨hV9, hc0.2⟩⟩)
      · refine g_aload_n hC dX10_differ_23 rfl ?_
        refine g_getR hC fdX10_69 (by assumption) (by assumption) dX10_differ_24 ?_
        refine g_iload_n hC dX10_differ_27 rfl ?_
        refine g_iald hC (by assumption) (by omega) (by omega) (by decide) dX10_differ_28 ?_
        refine g_goto (tgt := 61) hC dX10_differ_29 (by decide) ?_
        refine g_iret hC hI rfl dX10_differ_61 (Nat.le_of_ble_eq_true rfl) (Nat.le_of_ble_eq_true rfl) ⟨rfl, rfl, _, rfl, ?_⟩
        obtain ⟨u1, u2, u3⟩ := d3 (by omega) (by omega)
        rw [tellD, if_neg (by omega)]
        first
        | (rw [if_pos (by omega), u1]; exact ⟨rfl, ⟨hV9, hc0.2⟩⟩)
        | (rw [if_neg (by omega), if_pos (by omega), u2]; exact ⟨rfl, ⟨hV9, hc0.2⟩⟩)
        | (rw [if_neg (by omega), if_neg (by omega), if_pos (by omega), u3]; exact ⟨rfl, ⟨hV9, hc0.2⟩⟩)
        | (rw [if_neg (by omega), if_neg (by omega), if_neg (by omega)]; exact ⟨rfl, ⟨hV9, hc0.2⟩⟩)
    · refine g_iconst hC dX10_differ_17 ?_
      refine g_iret hC hI rfl dX10_differ_18 (Nat.le_of_ble_eq_true rfl) (Nat.le_of_ble_eq_true rfl) ⟨rfl, rfl, _, rfl, ?_⟩
      rw [tellD, if_pos (by omega)]
      exact ⟨rfl, ⟨hV9, hc0.2⟩⟩
set_option maxHeartbeats 4000000 in
set_option maxRecDepth 100000 in
theorem kX10_ahead (lc : Launch) (D : va_G) (ac : Nat → ClassId) {sh : Nat → Nat × Nat} {rf : Nat → Nat → Option Nat} {mem : Nat → Nat → Int} (m : Nat) (B : Nat → Nat) (rp ex ar : List Int) (ms : List (Option MemT)) (ss : List (Option SetT)) (ch : Lns) (ds : Dfs) (lk : Nat) (g y z : Int) (n : Int) (hM : MO sh rf m B) (hV : MV m B mem rp ms ss ch ds lk ex ar g y z) (h_n : inR n) : gMet lc D ac mX10_ahead 3 [.ref m, .int (iI n)] 0 0 sh rf mem (pM sh rf (fun r mem1 => (¬ (0 ≤ n ∧ n ≤ 9) ∧ r = -4 ∧ MV m B mem1 rp ms ss ch ds lk ex ar g y z ∧ chA m B mem mem1) ∨ ((0 ≤ n ∧ n ≤ 9) ∧ r = lk ∧ MV m B mem1 rp ms ss ch ds n.toNat ex ar g y z ∧ chA m B mem mem1))) := by
  refine gMet.mk (by decide) (by intro v hv; simp at hv; (try rcases hv with rfl | rfl) <;> rfl) (Nat.le_of_ble_eq_true rfl) (fun X hC hI => ?_)
  show gG X sh rf mem 0 0 0 [some (.ref m), some (.int (iI n)), none] []
  have hM9 := hM
  obtain ⟨mo, R4, S4, R5, S5, R6, S6, R7, S7, R8, S8, R9, S9, R10, S10, R11, S11, R12, S12, R13, S13, R14, S14, R15, S15, R16, S16, R17, S17, R19, S19, R20, S20, R21, S21, R22, S22, R25, S25, R26, S26, R27, S27, R30, S30, R31, S31, hBe, hBm, hmB⟩ := hM
  have i_n := h_n
  obtain ⟨n1, n2⟩ := h_n
  obtain ⟨mem0, e0⟩ : ∃ q, q = gup mem m 0 0 := ⟨_, rfl⟩
  obtain ⟨hV0, hc0⟩ := MV.code (v := 0) hmB hV
  rw [← e0] at hV0 hc0
  have hV9 := hV0
  obtain ⟨hvL, hvM, hvS, hvC, hvD, hvO, hvI, hvT⟩ := hV0
  have d2 := hvD.2.1
  refine g_aload_n hC dX10_ahead_0 rfl ?_
  refine g_iconst hC dX10_ahead_1 ?_
  refine g_putI hC fdX10_84 (by assumption) rfl rfl dX10_ahead_2 ?_
  rw [← e0]
  refine g_iload_n hC dX10_ahead_5 rfl ?_
  refine g_if_lt (tgt := 15) hC dX10_ahead_6 (by decide) ⟨by omega, by omega⟩ (fun h6 => ?_) (fun h6 => ?_)
  · refine g_bipush hC dX10_ahead_15 (by decide +kernel) ?_
    refine g_iret hC hI rfl dX10_ahead_17 (Nat.le_of_ble_eq_true rfl) (Nat.le_of_ble_eq_true rfl) ⟨rfl, rfl, _, rfl, ?_⟩
    exact Or.inl ⟨by omega, rfl, ⟨hV9, hc0.2⟩⟩
  · refine g_iload_n hC dX10_ahead_9 rfl ?_
    refine g_bipush hC dX10_ahead_10 (by decide +kernel) ?_
    refine g_icmp_le (tgt := 18) hC dX10_ahead_12 (by decide) ⟨by omega, by omega⟩ ⟨by omega, by omega⟩ (fun h12 => ?_) (fun h12 => ?_)
    · refine g_aload_n hC dX10_ahead_18 rfl ?_
      refine g_getI hC fdX10_65 (by assumption) dX10_ahead_19 ?_
      refine g_istore_n hC 2 rfl dX10_ahead_22 (Nat.le_of_ble_eq_true rfl) ?_
      dsimp only [List.set]
      refine g_aload_n hC dX10_ahead_23 rfl ?_
      refine g_iload_n hC dX10_ahead_24 rfl ?_
      refine g_putI hC fdX10_65 (by assumption) rfl rfl dX10_ahead_25 ?_
      refine g_iload_n hC dX10_ahead_28 rfl ?_
      refine g_iret hC hI rfl dX10_ahead_29 (Nat.le_of_ble_eq_true rfl) (Nat.le_of_ble_eq_true rfl) ⟨rfl, rfl, _, rfl, ?_⟩
      have c3 : chF m B mem0 (gup mem0 m 24 n) [24] := chF.fld hmB
      exact Or.inr ⟨by omega, d2, ⟨hvL.st c3 (by decide), hvM.st c3 (by decide), hvS.st c3 (by decide), hvC.st c3 (by decide), ⟨by rw [gup_k _ _ _ _ (by decide)]; exact hvD.1, by rw [gup_s]; omega, by rw [(c3.1 25 (by decide)).2, (c3.1 26 (by decide)).2, (c3.1 27 (by decide)).2]; exact hvD.2.2⟩, hvO.st c3 (by decide), hvI.st c3 (by decide), hvT.st c3 (by decide)⟩, chA.trans hc0.2 c3.2⟩
    · refine g_bipush hC dX10_ahead_15 (by decide +kernel) ?_
      refine g_iret hC hI rfl dX10_ahead_17 (Nat.le_of_ble_eq_true rfl) (Nat.le_of_ble_eq_true rfl) ⟨rfl, rfl, _, rfl, ?_⟩
      exact Or.inl ⟨by omega, rfl, ⟨hV9, hc0.2⟩⟩
set_option maxHeartbeats 4000000 in
set_option maxRecDepth 100000 in
theorem kX10_dry (lc : Launch) (D : va_G) (ac : Nat → ClassId) {sh : Nat → Nat × Nat} {rf : Nat → Nat → Option Nat} {mem : Nat → Nat → Int} (m : Nat) (B : Nat → Nat) (rp ex ar : List Int) (ms : List (Option MemT)) (ss : List (Option SetT)) (ch : Lns) (ds : Dfs) (lk : Nat) (g y z : Int) (v : Int) (hM : MO sh rf m B) (hV : MV m B mem rp ms ss ch ds lk ex ar g y z) (hp : v = 0 ∨ v = 1) : gMet lc D ac mX10_dry 3 [.ref m, .int (iI v)] 0 0 sh rf mem (pM sh rf (fun r mem1 => r = z ∧ MV m B mem1 rp ms ss ch ds lk ex ar g v z ∧ chA m B mem mem1)) := by
  refine gMet.mk (by decide) (by intro v hv; simp at hv; (try rcases hv with rfl | rfl) <;> rfl) (Nat.le_of_ble_eq_true rfl) (fun X hC hI => ?_)
  show gG X sh rf mem 0 0 0 [some (.ref m), some (.int (iI v))] []
  have hM9 := hM
  obtain ⟨mo, R4, S4, R5, S5, R6, S6, R7, S7, R8, S8, R9, S9, R10, S10, R11, S11, R12, S12, R13, S13, R14, S14, R15, S15, R16, S16, R17, S17, R19, S19, R20, S20, R21, S21, R22, S22, R25, S25, R26, S26, R27, S27, R30, S30, R31, S31, hBe, hBm, hmB⟩ := hM
  obtain ⟨mem0, e0⟩ : ∃ q, q = gup mem m 0 0 := ⟨_, rfl⟩
  obtain ⟨hV0, hc0⟩ := MV.code (v := 0) hmB hV
  rw [← e0] at hV0 hc0
  have hV9 := hV0
  obtain ⟨hvL, hvM, hvS, hvC, hvD, hvO, hvI, hvT⟩ := hV0
  refine g_aload_n hC dX10_dry_0 rfl ?_
  refine g_iconst hC dX10_dry_1 ?_
  refine g_putI hC fdX10_84 (by assumption) rfl rfl dX10_dry_2 ?_
  rw [← e0]
  refine g_aload_n hC dX10_dry_5 rfl ?_
  refine g_iload_n hC dX10_dry_6 rfl ?_
  refine g_putI hC fdX10_140 (by assumption) (by rcases hp with rfl | rfl <;> decide +kernel) (by rcases hp with rfl | rfl <;> decide +kernel) dX10_dry_7 ?_
  obtain ⟨mem2, e2⟩ : ∃ q, q = gup mem0 m 32 v := ⟨_, rfl⟩
  rw [← e2]
  refine g_aload_n hC dX10_dry_10 rfl ?_
  refine g_getI hC fdX10_137 (by assumption) dX10_dry_11 ?_
  refine g_iret hC hI rfl dX10_dry_14 (Nat.le_of_ble_eq_true rfl) (Nat.le_of_ble_eq_true rfl) ⟨rfl, rfl, _, rfl, ?_⟩
  have c3 : chF m B mem0 mem2 [32] := by rw [e2]; exact chF.fld hmB
  exact ⟨by rw [(c3.1 33 (by decide)).1]; exact hvT.2.2, ⟨hvL.st c3 (by decide), hvM.st c3 (by decide), hvS.st c3 (by decide), hvC.st c3 (by decide), hvD.st c3 (by decide), hvO.st c3 (by decide), hvI.st c3 (by decide), ⟨by rw [(c3.1 34 (by decide)).1]; exact hvT.1, by rw [e2, gup_s], by rw [(c3.1 33 (by decide)).1]; exact hvT.2.2⟩⟩, chA.trans hc0.2 c3.2⟩
set_option maxHeartbeats 4000000 in
set_option maxRecDepth 100000 in
theorem kX10_greatest (lc : Launch) (D : va_G) (ac : Nat → ClassId) {sh : Nat → Nat × Nat} {rf : Nat → Nat → Option Nat} {mem : Nat → Nat → Int} (m : Nat) (B : Nat → Nat) (rp ex ar : List Int) (ms : List (Option MemT)) (ss : List (Option SetT)) (ch : Lns) (ds : Dfs) (lk : Nat) (g y z : Int) (hM : MO sh rf m B) (hV : MV m B mem rp ms ss ch ds lk ex ar g y z) : gMet lc D ac mX10_greatest 3 [.ref m] 0 0 sh rf mem (pM sh rf (fun r mem1 => r = g ∧ MV m B mem1 rp ms ss ch ds lk ex ar g y z ∧ chA m B mem mem1)) := by
  refine gMet.mk (by decide) (by intro v hv; simp at hv; (try rcases hv with rfl) <;> rfl) (Nat.le_of_ble_eq_true rfl) (fun X hC hI => ?_)
  show gG X sh rf mem 0 0 0 [some (.ref m)] []
  have hM9 := hM
  obtain ⟨mo, R4, S4, R5, S5, R6, S6, R7, S7, R8, S8, R9, S9, R10, S10, R11, S11, R12, S12, R13, S13, R14, S14, R15, S15, R16, S16, R17, S17, R19, S19, R20, S20, R21, S21, R22, S22, R25, S25, R26, S26, R27, S27, R30, S30, R31, S31, hBe, hBm, hmB⟩ := hM
  obtain ⟨mem0, e0⟩ : ∃ q, q = gup mem m 0 0 := ⟨_, rfl⟩
  obtain ⟨hV0, hc0⟩ := MV.code (v := 0) hmB hV
  rw [← e0] at hV0 hc0
  have hV9 := hV0
  obtain ⟨hvL, hvM, hvS, hvC, hvD, hvO, hvI, hvT⟩ := hV0
  refine g_aload_n hC dX10_greatest_0 rfl ?_
  refine g_iconst hC dX10_greatest_1 ?_
  refine g_putI hC fdX10_84 (by assumption) rfl rfl dX10_greatest_2 ?_
  rw [← e0]
  refine g_aload_n hC dX10_greatest_5 rfl ?_
  refine g_getI hC fdX10_134 (by assumption) dX10_greatest_6 ?_
  refine g_iret hC hI rfl dX10_greatest_9 (Nat.le_of_ble_eq_true rfl) (Nat.le_of_ble_eq_true rfl) ⟨rfl, rfl, _, rfl, ?_⟩
  exact ⟨hvT.1, ⟨hV9, hc0.2⟩⟩
set_option maxHeartbeats 4000000 in
set_option maxRecDepth 100000 in
theorem kX10_step (lc : Launch) (D : va_G) (ac : Nat → ClassId) {sh : Nat → Nat × Nat} {rf : Nat → Nat → Option Nat} {mem : Nat → Nat → Int} (m : Nat) (B : Nat → Nat) (rp ex ar : List Int) (ms : List (Option MemT)) (ss : List (Option SetT)) (ch : Lns) (ds : Dfs) (lk : Nat) (g y z : Int) (hM : MO sh rf m B) (hV : MV m B mem rp ms ss ch ds lk ex ar g y z) : gMet lc D ac mX10_step 3 [.ref m] 0 0 sh rf mem (pM sh rf (fun r mem1 => r = g ∧ MV m B mem1 rp ms ss ch ds lk ex ar 0 y z ∧ chA m B mem mem1)) := by
  refine gMet.mk (by decide) (by intro v hv; simp at hv; (try rcases hv with rfl) <;> rfl) (Nat.le_of_ble_eq_true rfl) (fun X hC hI => ?_)
  show gG X sh rf mem 0 0 0 [some (.ref m), none] []
  have hM9 := hM
  obtain ⟨mo, R4, S4, R5, S5, R6, S6, R7, S7, R8, S8, R9, S9, R10, S10, R11, S11, R12, S12, R13, S13, R14, S14, R15, S15, R16, S16, R17, S17, R19, S19, R20, S20, R21, S21, R22, S22, R25, S25, R26, S26, R27, S27, R30, S30, R31, S31, hBe, hBm, hmB⟩ := hM
  obtain ⟨mem0, e0⟩ : ∃ q, q = gup mem m 0 0 := ⟨_, rfl⟩
  obtain ⟨hV0, hc0⟩ := MV.code (v := 0) hmB hV
  rw [← e0] at hV0 hc0
  have hV9 := hV0
  obtain ⟨hvL, hvM, hvS, hvC, hvD, hvO, hvI, hvT⟩ := hV0
  refine g_aload_n hC dX10_step_0 rfl ?_
  refine g_iconst hC dX10_step_1 ?_
  refine g_putI hC fdX10_84 (by assumption) rfl rfl dX10_step_2 ?_
  rw [← e0]
  refine g_aload_n hC dX10_step_5 rfl ?_
  refine g_getI hC fdX10_134 (by assumption) dX10_step_6 ?_
  refine g_istore_n hC 1 rfl dX10_step_9 (Nat.le_of_ble_eq_true rfl) ?_
  dsimp only [List.set]
  refine g_aload_n hC dX10_step_10 rfl ?_
  refine g_iconst hC dX10_step_11 ?_
  refine g_putI hC fdX10_134 (by assumption) rfl rfl dX10_step_12 ?_
  refine g_iload_n hC dX10_step_15 rfl ?_
  refine g_iret hC hI rfl dX10_step_16 (Nat.le_of_ble_eq_true rfl) (Nat.le_of_ble_eq_true rfl) ⟨rfl, rfl, _, rfl, ?_⟩
  have c3 : chF m B mem0 (gup mem0 m 34 0) [34] := chF.fld hmB
  exact ⟨hvT.1, ⟨hvL.st c3 (by decide), hvM.st c3 (by decide), hvS.st c3 (by decide), hvC.st c3 (by decide), hvD.st c3 (by decide), hvO.st c3 (by decide), hvI.st c3 (by decide), ⟨gup_s _ _ _ _, by rw [(c3.1 32 (by decide)).1]; exact hvT.2.1, by rw [(c3.1 33 (by decide)).1]; exact hvT.2.2⟩⟩, chA.trans hc0.2 c3.2⟩
set_option maxHeartbeats 4000000 in
set_option maxRecDepth 100000 in
theorem kX10_find (lc : Launch) (D : va_G) (ac : Nat → ClassId) {sh : Nat → Nat × Nat} {rf : Nat → Nat → Option Nat} {mem : Nat → Nat → Int} (m : Nat) (B : Nat → Nat) (rp ex ar : List Int) (ms : List (Option MemT)) (ss : List (Option SetT)) (ch : Lns) (ds : Dfs) (lk : Nat) (g y z : Int) (l n : Int) (hM : MO sh rf m B) (hV : MV m B mem rp ms ss ch ds lk ex ar g y z) (kR : okR rp) (kM : okM ms) (h_l : inR l) (h_n : inR n) : gMet lc D ac mX10_find 3 [.ref m, .int (iI l), .int (iI n)] 0 0 sh rf mem (pM sh rf (fun r mem1 => r = findR rp ms l n ∧ MV m B mem1 rp ms ss ch ds lk ex ar g y z ∧ chA m B mem mem1)) := by
  refine gMet.mk (by decide) (by intro v hv; simp at hv; (try rcases hv with rfl | rfl | rfl) <;> rfl) (Nat.le_of_ble_eq_true rfl) (fun X hC hI => ?_)
  show gG X sh rf mem 0 0 0 [some (.ref m), some (.int (iI l)), some (.int (iI n))] []
  have hM9 := hM
  obtain ⟨mo, R4, S4, R5, S5, R6, S6, R7, S7, R8, S8, R9, S9, R10, S10, R11, S11, R12, S12, R13, S13, R14, S14, R15, S15, R16, S16, R17, S17, R19, S19, R20, S20, R21, S21, R22, S22, R25, S25, R26, S26, R27, S27, R30, S30, R31, S31, hBe, hBm, hmB⟩ := hM
  obtain ⟨mem0, e0⟩ : ∃ q, q = gup mem m 0 0 := ⟨_, rfl⟩
  obtain ⟨hV0, hc0⟩ := MV.code (v := 0) hmB hV
  rw [← e0] at hV0 hc0
  have hV9 := hV0
  obtain ⟨hvL, hvM, hvS, hvC, hvD, hvO, hvI, hvT⟩ := hV0
  refine g_aload_n hC dX10_find_0 rfl ?_
  refine g_iconst hC dX10_find_1 ?_
  refine g_putI hC fdX10_84 (by assumption) rfl rfl dX10_find_2 ?_
  rw [← e0]
  refine g_aload_n hC dX10_find_5 rfl ?_
  refine g_iload_n hC dX10_find_6 rfl ?_
  refine g_VP hC (kX10_isLibrary (gl X) (gD X) (gac X) m B rp l hM9 hvL kR h_l) cvX10_isLibrary lkX10_96 (by assumption) rfl rfl (Nat.le_of_ble_eq_true rfl) (hI.fit (Nat.le_of_ble_eq_true rfl) (Nat.le_of_ble_eq_true rfl) (Nat.le_of_ble_eq_true rfl)) dX10_find_7 (fun x7 hx7 => ?_)
  refine g_if_eq (tgt := 22) hC dX10_find_10 (by decide) ⟨by omega, by omega⟩ (fun h10 => ?_) (fun h10 => ?_)
  · refine g_bipush hC dX10_find_22 (by decide +kernel) ?_
    refine g_iret hC hI rfl dX10_find_24 (Nat.le_of_ble_eq_true rfl) (Nat.le_of_ble_eq_true rfl) ⟨rfl, rfl, _, rfl, ?_⟩
    rw [findR]
    first | (rw [if_neg (by omega)]; exact ⟨rfl, ⟨hV9, hc0.2⟩⟩) | (rw [if_pos (by omega)]; exact ⟨hx16, ⟨hV9, hc0.2⟩⟩)
  · refine g_aload_n hC dX10_find_13 rfl ?_
    refine g_iload_n hC dX10_find_14 rfl ?_
    refine g_iload_n hC dX10_find_15 rfl ?_
    refine g_VP hC (kX10_memberOf (gl X) (gD X) (gac X) m B ms l n hM9 hvM kM h_l h_n) cvX10_memberOf lkX10_103 (by assumption) rfl rfl (Nat.le_of_ble_eq_true rfl) (hI.fit (Nat.le_of_ble_eq_true rfl) (Nat.le_of_ble_eq_true rfl) (Nat.le_of_ble_eq_true rfl)) dX10_find_16 (fun x16 hx16 => ?_)
    refine g_goto (tgt := 24) hC dX10_find_19 (by decide) ?_
    refine g_iret hC hI rfl dX10_find_24 (Nat.le_of_ble_eq_true rfl) (Nat.le_of_ble_eq_true rfl) ⟨rfl, rfl, _, rfl, ?_⟩
    rw [findR]
    first | (rw [if_neg (by omega)]; exact ⟨rfl, ⟨hV9, hc0.2⟩⟩) | (rw [if_pos (by omega)]; exact ⟨hx16, ⟨hV9, hc0.2⟩⟩)
set_option maxHeartbeats 4000000 in
set_option maxRecDepth 100000 in
theorem kX10_count (lc : Launch) (D : va_G) (ac : Nat → ClassId) {sh : Nat → Nat × Nat} {rf : Nat → Nat → Option Nat} {mem : Nat → Nat → Int} (m : Nat) (B : Nat → Nat) (rp ex ar : List Int) (ms : List (Option MemT)) (ss : List (Option SetT)) (ch : Lns) (ds : Dfs) (lk : Nat) (g y z : Int) (w : Int) (hM : MO sh rf m B) (hV : MV m B mem rp ms ss ch ds lk ex ar g y z) (h_w : inR w) : gMet lc D ac mX10_count 3 [.ref m, .int (iI w)] 0 0 sh rf mem (pM sh rf (fun r mem1 => r = couR rp ms ss ch ds ar w ∧ MV m B mem1 rp ms ss ch ds lk ex ar g y z ∧ chA m B mem mem1)) := by
  refine gMet.mk (by decide) (by intro v hv; simp at hv; (try rcases hv with rfl | rfl) <;> rfl) (Nat.le_of_ble_eq_true rfl) (fun X hC hI => ?_)
  show gG X sh rf mem 0 0 0 [some (.ref m), some (.int (iI w))] []
  have hM9 := hM
  obtain ⟨mo, R4, S4, R5, S5, R6, S6, R7, S7, R8, S8, R9, S9, R10, S10, R11, S11, R12, S12, R13, S13, R14, S14, R15, S15, R16, S16, R17, S17, R19, S19, R20, S20, R21, S21, R22, S22, R25, S25, R26, S26, R27, S27, R30, S30, R31, S31, hBe, hBm, hmB⟩ := hM
  have i_w := h_w
  obtain ⟨w1, w2⟩ := h_w
  obtain ⟨mem0, e0⟩ : ∃ q, q = gup mem m 0 0 := ⟨_, rfl⟩
  obtain ⟨hV0, hc0⟩ := MV.code (v := 0) hmB hV
  rw [← e0] at hV0 hc0
  have hV9 := hV0
  obtain ⟨hvL, hvM, hvS, hvC, hvD, hvO, hvI, hvT⟩ := hV0
  refine g_aload_n hC dX10_count_0 rfl ?_
  refine g_iconst hC dX10_count_1 ?_
  refine g_putI hC fdX10_84 (by assumption) rfl rfl dX10_count_2 ?_
  rw [← e0]
  refine g_iload_n hC dX10_count_5 rfl ?_
  rcases (show w = 0 ∨ w = 1 ∨ w = 2 ∨ w = 3 ∨ w = 4 ∨ w = 5 ∨ (w < 0 ∨ 5 < w) by omega) with s6 | s6 | s6 | s6 | s6 | s6 | s6
  · refine g_tableIn (tgt := 44) hC dX10_count_6 (0) s6 ⟨by decide, by decide⟩ (by decide) (by decide) rfl (by decide) ?_
    refine g_aload_n hC dX10_count_44 rfl ?_
    refine g_getI hC fdX10_87 (by assumption) dX10_count_45 ?_
    refine g_iret hC hI rfl dX10_count_48 (Nat.le_of_ble_eq_true rfl) (Nat.le_of_ble_eq_true rfl) ⟨rfl, rfl, _, rfl, ?_⟩
    subst s6
    exact ⟨hvL.1, ⟨hV9, hc0.2⟩⟩
  · refine g_tableIn (tgt := 49) hC dX10_count_6 (1) s6 ⟨by decide, by decide⟩ (by decide) (by decide) rfl (by decide) ?_
    refine g_aload_n hC dX10_count_49 rfl ?_
    refine g_getI hC fdX10_90 (by assumption) dX10_count_50 ?_
    refine g_iret hC hI rfl dX10_count_53 (Nat.le_of_ble_eq_true rfl) (Nat.le_of_ble_eq_true rfl) ⟨rfl, rfl, _, rfl, ?_⟩
    subst s6
    exact ⟨hvM.1, ⟨hV9, hc0.2⟩⟩
  · refine g_tableIn (tgt := 54) hC dX10_count_6 (2) s6 ⟨by decide, by decide⟩ (by decide) (by decide) rfl (by decide) ?_
    refine g_aload_n hC dX10_count_54 rfl ?_
    refine g_getI hC fdX10_93 (by assumption) dX10_count_55 ?_
    refine g_iret hC hI rfl dX10_count_58 (Nat.le_of_ble_eq_true rfl) (Nat.le_of_ble_eq_true rfl) ⟨rfl, rfl, _, rfl, ?_⟩
    subst s6
    exact ⟨hvS.1, ⟨hV9, hc0.2⟩⟩
  · refine g_tableIn (tgt := 59) hC dX10_count_6 (3) s6 ⟨by decide, by decide⟩ (by decide) (by decide) rfl (by decide) ?_
    refine g_aload_n hC dX10_count_59 rfl ?_
    refine g_getI hC fdX10_178 (by assumption) dX10_count_60 ?_
    refine g_iret hC hI rfl dX10_count_63 (Nat.le_of_ble_eq_true rfl) (Nat.le_of_ble_eq_true rfl) ⟨rfl, rfl, _, rfl, ?_⟩
    subst s6
    exact ⟨hvC.1, ⟨hV9, hc0.2⟩⟩
  · refine g_tableIn (tgt := 64) hC dX10_count_6 (4) s6 ⟨by decide, by decide⟩ (by decide) (by decide) rfl (by decide) ?_
    refine g_aload_n hC dX10_count_64 rfl ?_
    refine g_getI hC fdX10_164 (by assumption) dX10_count_65 ?_
    refine g_iret hC hI rfl dX10_count_68 (Nat.le_of_ble_eq_true rfl) (Nat.le_of_ble_eq_true rfl) ⟨rfl, rfl, _, rfl, ?_⟩
    subst s6
    exact ⟨hvD.1, ⟨hV9, hc0.2⟩⟩
  · refine g_tableIn (tgt := 69) hC dX10_count_6 (5) s6 ⟨by decide, by decide⟩ (by decide) (by decide) rfl (by decide) ?_
    refine g_aload_n hC dX10_count_69 rfl ?_
    refine g_getI hC fdX10_194 (by assumption) dX10_count_70 ?_
    refine g_iret hC hI rfl dX10_count_73 (Nat.le_of_ble_eq_true rfl) (Nat.le_of_ble_eq_true rfl) ⟨rfl, rfl, _, rfl, ?_⟩
    subst s6
    exact ⟨hvI.1, ⟨hV9, hc0.2⟩⟩
  · refine g_tableOut (tgt := 74) hC dX10_count_6 ⟨by omega, by omega⟩ s6 (by decide) ?_
    refine g_iconst hC dX10_count_74 ?_
    refine g_iret hC hI rfl dX10_count_75 (Nat.le_of_ble_eq_true rfl) (Nat.le_of_ble_eq_true rfl) ⟨rfl, rfl, _, rfl, ?_⟩
    rw [couR, if_neg (by omega), if_neg (by omega), if_neg (by omega), if_neg (by omega), if_neg (by omega), if_neg (by omega)]
    exact ⟨rfl, ⟨hV9, hc0.2⟩⟩
set_option maxHeartbeats 4000000 in
set_option maxRecDepth 100000 in
theorem kX10_letter (lc : Launch) (D : va_G) (ac : Nat → ClassId) {sh : Nat → Nat × Nat} {rf : Nat → Nat → Option Nat} {mem : Nat → Nat → Int} (m : Nat) (B : Nat → Nat) (rp ex ar : List Int) (ms : List (Option MemT)) (ss : List (Option SetT)) (ch : Lns) (ds : Dfs) (lk : Nat) (g y z : Int) (l i k : Int) (hM : MO sh rf m B) (hV : MV m B mem rp ms ss ch ds lk ex ar g y z) (kM : okM ms) (h_l : inR l) (h_i : inR i) (h_k : inR k) : gMet lc D ac mX10_letter 3 [.ref m, .int (iI l), .int (iI i), .int (iI k)] 0 0 sh rf mem (pM sh rf (fun r mem1 => r = letR ms l i k ∧ MV m B mem1 rp ms ss ch ds lk ex ar g y z ∧ chA m B mem mem1)) := by
  refine gMet.mk (by decide) (by intro v hv; simp at hv; (try rcases hv with rfl | rfl | rfl | rfl) <;> rfl) (Nat.le_of_ble_eq_true rfl) (fun X hC hI => ?_)
  show gG X sh rf mem 0 0 0 [some (.ref m), some (.int (iI l)), some (.int (iI i)), some (.int (iI k)), none] []
  have hM9 := hM
  obtain ⟨mo, R4, S4, R5, S5, R6, S6, R7, S7, R8, S8, R9, S9, R10, S10, R11, S11, R12, S12, R13, S13, R14, S14, R15, S15, R16, S16, R17, S17, R19, S19, R20, S20, R21, S21, R22, S22, R25, S25, R26, S26, R27, S27, R30, S30, R31, S31, hBe, hBm, hmB⟩ := hM
  have i_l := h_l
  obtain ⟨l1, l2⟩ := h_l
  have i_i := h_i
  obtain ⟨i1, i2⟩ := h_i
  have i_k := h_k
  obtain ⟨k1, k2⟩ := h_k
  obtain ⟨mem0, e0⟩ : ∃ q, q = gup mem m 0 0 := ⟨_, rfl⟩
  obtain ⟨hV0, hc0⟩ := MV.code (v := 0) hmB hV
  rw [← e0] at hV0 hc0
  have hV9 := hV0
  obtain ⟨hvL, hvM, hvS, hvC, hvD, hvO, hvI, hvT⟩ := hV0
  refine g_aload_n hC dX10_letter_0 rfl ?_
  refine g_iconst hC dX10_letter_1 ?_
  refine g_putI hC fdX10_84 (by assumption) rfl rfl dX10_letter_2 ?_
  rw [← e0]
  refine g_aload_n hC dX10_letter_5 rfl ?_
  refine g_iload_n hC dX10_letter_6 rfl ?_
  refine g_VP hC (kX10_isMember (gl X) (gD X) (gac X) m B ms l hM9 hvM kM i_l) cvX10_isMember lkX10_114 (by assumption) rfl rfl (Nat.le_of_ble_eq_true rfl) (hI.fit (Nat.le_of_ble_eq_true rfl) (Nat.le_of_ble_eq_true rfl) (Nat.le_of_ble_eq_true rfl)) dX10_letter_7 (fun x7 hx7 => ?_)
  refine g_if_eq (tgt := 27) hC dX10_letter_10 (by decide) ⟨by omega, by omega⟩ (fun h10 => ?_) (fun h10 => ?_)
  · refine g_iconst hC dX10_letter_27 ?_
    refine g_iret hC hI rfl dX10_letter_28 (Nat.le_of_ble_eq_true rfl) (Nat.le_of_ble_eq_true rfl) ⟨rfl, rfl, _, rfl, ?_⟩
    first
    | (have n9 : memAt ms l = none := by
         rcases hx7 with ⟨w, -⟩ | ⟨-, w⟩
         · omega
         · exact w
       have eL : letR ms l i k = -1 := by rw [letR, n9]
       rw [eL]
       exact ⟨rfl, ⟨hV9, hc0.2⟩⟩)
    | (have eL : letR ms K i k = -1 := by rw [letR, ex0]; exact if_neg (by omega)
       rw [eL]
       exact ⟨rfl, ⟨hV9, hc0.2⟩⟩)
  · have q7 : memAt ms l ≠ none := by
      rcases hx7 with ⟨-, w⟩ | ⟨w, -⟩
      · exact w
      · omega
    obtain ⟨x, ex0⟩ := Option.ne_none_iff_exists'.mp q7
    obtain ⟨K, eK, K1, K2, K3, hLK⟩ := memAt_view2 hvM ex0
    have kk1 := kM.1
    have okK := (kM.2 _ _ K3).2.2.2.2
    have z70 := okK.1
    subst eK
    have z71 : mem0 (B 7) (K : Int).toNat = x.2.2.length := hLK.1
    refine g_iload_n hC dX10_letter_13 rfl ?_
    refine g_if_lt (tgt := 27) hC dX10_letter_14 (by decide) ⟨by omega, by omega⟩ (fun h14 => ?_) (fun h14 => ?_)
    · refine g_iconst hC dX10_letter_27 ?_
      refine g_iret hC hI rfl dX10_letter_28 (Nat.le_of_ble_eq_true rfl) (Nat.le_of_ble_eq_true rfl) ⟨rfl, rfl, _, rfl, ?_⟩
      first
      | (have n9 : memAt ms l = none := by
           rcases hx7 with ⟨w, -⟩ | ⟨-, w⟩
           · omega
           · exact w
         have eL : letR ms l i k = -1 := by rw [letR, n9]
         rw [eL]
         exact ⟨rfl, ⟨hV9, hc0.2⟩⟩)
      | (have eL : letR ms K i k = -1 := by rw [letR, ex0]; exact if_neg (by omega)
         rw [eL]
         exact ⟨rfl, ⟨hV9, hc0.2⟩⟩)
    · refine g_iload_n hC dX10_letter_17 rfl ?_
      refine g_aload_n hC dX10_letter_18 rfl ?_
      refine g_getR hC fdX10_20 (by assumption) (by assumption) dX10_letter_19 ?_
      refine g_iload_n hC dX10_letter_22 rfl ?_
      refine g_iald hC (by assumption) (by omega) (by omega) (by decide) dX10_letter_23 ?_
      refine g_icmp_lt (tgt := 29) hC dX10_letter_24 (by decide) ⟨by omega, by omega⟩ ⟨by omega, by omega⟩ (fun h24 => ?_) (fun h24 => ?_)
      · obtain ⟨j, rfl⟩ : ∃ j : Nat, i = (j : Int) := ⟨i.toNat, by omega⟩
        have hj : j < x.2.2.length := by omega
        have eP : (30 * (K : Int) + j).toNat = 30 * K + j := by omega
        have u1 : mem0 (B 9) (30 * (K : Int) + j).toNat = nu x.2.2 j := by rw [eP]; exact (hLK.2 j hj).1
        have u2 : mem0 (B 10) (30 * (K : Int) + j).toNat = (sg x.2.2 j).length := by rw [eP]; exact (hLK.2 j hj).2.1
        have z72 := (okK.2 j).1
        have eL : letR ms K j k = if k = -1 then nu x.2.2 j else if 0 ≤ k ∧ k < (sg x.2.2 j).length then (sg x.2.2 j).getD k.toNat 0 else -1 := by
          rw [letR, ex0]
          exact if_pos ⟨by omega, by omega⟩
        refine g_bipush hC dX10_letter_29 (by decide +kernel) ?_
        refine g_iload_n hC dX10_letter_31 rfl ?_
        refine g_imul hC dX10_letter_32 ?_
        refine g_iload_n hC dX10_letter_33 rfl ?_
        refine g_iadd hC dX10_letter_34 ?_
        refine g_istore hC dX10_letter_35 (Nat.le_of_ble_eq_true rfl) ?_
        dsimp only [List.set]
        refine g_iload_n hC dX10_letter_37 rfl ?_
        refine g_iconst hC dX10_letter_38 ?_
        refine g_icmp_ne (tgt := 50) hC dX10_letter_39 (by decide) ⟨by omega, by omega⟩ ⟨by omega, by omega⟩ (fun h39 => ?_) (fun h39 => ?_)
        · refine g_iload_n hC dX10_letter_50 rfl ?_
          refine g_if_lt (tgt := 65) hC dX10_letter_51 (by decide) ⟨by omega, by omega⟩ (fun h51 => ?_) (fun h51 => ?_)
          · refine g_iconst hC dX10_letter_65 ?_
            refine g_goto (tgt := 81) hC dX10_letter_66 (by decide) ?_
            refine g_iret hC hI rfl dX10_letter_81 (Nat.le_of_ble_eq_true rfl) (Nat.le_of_ble_eq_true rfl) ⟨rfl, rfl, _, rfl, ?_⟩
            rw [eL, if_neg (by omega)]
            first
            | (rw [if_neg (by omega)]; exact ⟨rfl, ⟨hV9, hc0.2⟩⟩)
            | (rw [if_pos (by omega)]
               have e3 : (10 * (30 * (K : Int) + j) + k).toNat = 10 * (30 * K + j) + k.toNat := by omega
               rw [e3, (hLK.2 j hj).2.2 _ (by omega)]
               exact ⟨rfl, ⟨hV9, hc0.2⟩⟩)
          · refine g_iload_n hC dX10_letter_54 rfl ?_
            refine g_aload_n hC dX10_letter_55 rfl ?_
            refine g_getR hC fdX10_29 (by assumption) (by assumption) dX10_letter_56 ?_
            refine g_iload hC dX10_letter_59 rfl ?_
            refine g_iald hC (by assumption) (by omega) (by omega) (by decide) dX10_letter_61 ?_
            refine g_icmp_lt (tgt := 69) hC dX10_letter_62 (by decide) ⟨by omega, by omega⟩ ⟨by omega, by omega⟩ (fun h62 => ?_) (fun h62 => ?_)
            · refine g_aload_n hC dX10_letter_69 rfl ?_
              refine g_getR hC fdX10_32 (by assumption) (by assumption) dX10_letter_70 ?_
              refine g_bipush hC dX10_letter_73 (by decide +kernel) ?_
              refine g_iload hC dX10_letter_75 rfl ?_
              refine g_imul hC dX10_letter_77 ?_
              refine g_iload_n hC dX10_letter_78 rfl ?_
              refine g_iadd hC dX10_letter_79 ?_
              refine g_iald hC (by assumption) (by omega) (by omega) (by decide) dX10_letter_80 ?_
              refine g_iret hC hI rfl dX10_letter_81 (Nat.le_of_ble_eq_true rfl) (Nat.le_of_ble_eq_true rfl) ⟨rfl, rfl, _, rfl, ?_⟩
              rw [eL, if_neg (by omega)]
              first
              | (rw [if_neg (by omega)]; exact ⟨rfl, ⟨hV9, hc0.2⟩⟩)
              | (rw [if_pos (by omega)]
                 have e3 : (10 * (30 * (K : Int) + j) + k).toNat = 10 * (30 * K + j) + k.toNat := by omega
                 rw [e3, (hLK.2 j hj).2.2 _ (by omega)]
                 exact ⟨rfl, ⟨hV9, hc0.2⟩⟩)
            · refine g_iconst hC dX10_letter_65 ?_
              refine g_goto (tgt := 81) hC dX10_letter_66 (by decide) ?_
              refine g_iret hC hI rfl dX10_letter_81 (Nat.le_of_ble_eq_true rfl) (Nat.le_of_ble_eq_true rfl) ⟨rfl, rfl, _, rfl, ?_⟩
              rw [eL, if_neg (by omega)]
              first
              | (rw [if_neg (by omega)]; exact ⟨rfl, ⟨hV9, hc0.2⟩⟩)
              | (rw [if_pos (by omega)]
                 have e3 : (10 * (30 * (K : Int) + j) + k).toNat = 10 * (30 * K + j) + k.toNat := by omega
                 rw [e3, (hLK.2 j hj).2.2 _ (by omega)]
                 exact ⟨rfl, ⟨hV9, hc0.2⟩⟩)
        · refine g_aload_n hC dX10_letter_42 rfl ?_
          refine g_getR hC fdX10_26 (by assumption) (by assumption) dX10_letter_43 ?_
          refine g_iload hC dX10_letter_46 rfl ?_
          refine g_iald hC (by assumption) (by omega) (by omega) (by decide) dX10_letter_48 ?_
          refine g_iret hC hI rfl dX10_letter_49 (Nat.le_of_ble_eq_true rfl) (Nat.le_of_ble_eq_true rfl) ⟨rfl, rfl, _, rfl, ?_⟩
          rw [eL, if_pos (by omega), u1]
          exact ⟨rfl, ⟨hV9, hc0.2⟩⟩
      · refine g_iconst hC dX10_letter_27 ?_
        refine g_iret hC hI rfl dX10_letter_28 (Nat.le_of_ble_eq_true rfl) (Nat.le_of_ble_eq_true rfl) ⟨rfl, rfl, _, rfl, ?_⟩
        first
        | (have n9 : memAt ms l = none := by
             rcases hx7 with ⟨w, -⟩ | ⟨-, w⟩
             · omega
             · exact w
           have eL : letR ms l i k = -1 := by rw [letR, n9]
           rw [eL]
           exact ⟨rfl, ⟨hV9, hc0.2⟩⟩)
        | (have eL : letR ms K i k = -1 := by rw [letR, ex0]; exact if_neg (by omega)
           rw [eL]
           exact ⟨rfl, ⟨hV9, hc0.2⟩⟩)
set_option maxHeartbeats 4000000 in
set_option maxRecDepth 100000 in
theorem kX10_set (lc : Launch) (D : va_G) (ac : Nat → ClassId) {sh : Nat → Nat × Nat} {rf : Nat → Nat → Option Nat} {mem : Nat → Nat → Int} (m : Nat) (B : Nat → Nat) (rp ex ar : List Int) (ms : List (Option MemT)) (ss : List (Option SetT)) (ch : Lns) (ds : Dfs) (lk : Nat) (g y z : Int) (n w : Int) (hM : MO sh rf m B) (hV : MV m B mem rp ms ss ch ds lk ex ar g y z) (kS : okS ss) (h_n : inR n) (h_w : inR w) : gMet lc D ac mX10_set 3 [.ref m, .int (iI n), .int (iI w)] 0 0 sh rf mem (pM sh rf (fun r mem1 => r = setR ss n w ∧ MV m B mem1 rp ms ss ch ds lk ex ar g y z ∧ chA m B mem mem1)) := by
  refine gMet.mk (by decide) (by intro v hv; simp at hv; (try rcases hv with rfl | rfl | rfl) <;> rfl) (Nat.le_of_ble_eq_true rfl) (fun X hC hI => ?_)
  show gG X sh rf mem 0 0 0 [some (.ref m), some (.int (iI n)), some (.int (iI w))] []
  have hM9 := hM
  obtain ⟨mo, R4, S4, R5, S5, R6, S6, R7, S7, R8, S8, R9, S9, R10, S10, R11, S11, R12, S12, R13, S13, R14, S14, R15, S15, R16, S16, R17, S17, R19, S19, R20, S20, R21, S21, R22, S22, R25, S25, R26, S26, R27, S27, R30, S30, R31, S31, hBe, hBm, hmB⟩ := hM
  have i_n := h_n
  obtain ⟨n1, n2⟩ := h_n
  have i_w := h_w
  obtain ⟨w1, w2⟩ := h_w
  obtain ⟨mem0, e0⟩ : ∃ q, q = gup mem m 0 0 := ⟨_, rfl⟩
  obtain ⟨hV0, hc0⟩ := MV.code (v := 0) hmB hV
  rw [← e0] at hV0 hc0
  have hV9 := hV0
  obtain ⟨hvL, hvM, hvS, hvC, hvD, hvO, hvI, hvT⟩ := hV0
  refine g_aload_n hC dX10_set_0 rfl ?_
  refine g_iconst hC dX10_set_1 ?_
  refine g_putI hC fdX10_84 (by assumption) rfl rfl dX10_set_2 ?_
  rw [← e0]
  refine g_aload_n hC dX10_set_5 rfl ?_
  refine g_iload_n hC dX10_set_6 rfl ?_
  refine g_VP hC (kX10_isSet (gl X) (gD X) (gac X) m B ss n hM9 hvS kS i_n) cvX10_isSet lkX10_154 (by assumption) rfl rfl (Nat.le_of_ble_eq_true rfl) (hI.fit (Nat.le_of_ble_eq_true rfl) (Nat.le_of_ble_eq_true rfl) (Nat.le_of_ble_eq_true rfl)) dX10_set_7 (fun x7 hx7 => ?_)
  refine g_if_ne (tgt := 15) hC dX10_set_10 (by decide) ⟨by omega, by omega⟩ (fun h10 => ?_) (fun h10 => ?_)
  · have qs : setAt ss n ≠ none := by
      rcases hx7 with ⟨-, w⟩ | ⟨w, -⟩
      · exact w
      · omega
    obtain ⟨x, ex0⟩ := Option.ne_none_iff_exists'.mp qs
    obtain ⟨K, eK, K1, K2, K3, K4, hSK, k1, k2, k3, k4, k5⟩ := setAt_view2 hvS kS ex0
    subst eK
    have eL : setR ss K w = tellS x.1 x.2.1 x.2.2.1 x.2.2.2 w := by rw [setR, ex0]
    obtain ⟨h1, h2, h3, h4, h5, h6⟩ := hSK
    have l3 : mem0 (B 16) (K : Int).toNat = x.2.1 := h3
    have l5 : mem0 (B 14) (K : Int).toNat = x.2.2.2 := h5
    refine g_iload_n hC dX10_set_15 rfl ?_
    rcases (show w = 0 ∨ w = 1 ∨ w = 2 ∨ w = 3 ∨ w = 4 ∨ (w < 0 ∨ 4 < w) by omega) with s16 | s16 | s16 | s16 | s16 | s16
    · refine g_tableIn (tgt := 52) hC dX10_set_16 (0) s16 ⟨by decide, by decide⟩ (by decide) (by decide) rfl (by decide) ?_
      refine g_aload_n hC dX10_set_52 rfl ?_
      refine g_getR hC fdX10_35 (by assumption) (by assumption) dX10_set_53 ?_
      refine g_iload_n hC dX10_set_56 rfl ?_
      refine g_iald hC (by assumption) (by omega) (by omega) (by decide) dX10_set_57 ?_
      refine g_iret hC hI rfl dX10_set_58 (Nat.le_of_ble_eq_true rfl) (Nat.le_of_ble_eq_true rfl) ⟨rfl, rfl, _, rfl, ?_⟩
      subst s16
      rw [eL]
      exact ⟨h2, ⟨hV9, hc0.2⟩⟩
    · refine g_tableIn (tgt := 59) hC dX10_set_16 (1) s16 ⟨by decide, by decide⟩ (by decide) (by decide) rfl (by decide) ?_
      refine g_aload_n hC dX10_set_59 rfl ?_
      refine g_getR hC fdX10_38 (by assumption) (by assumption) dX10_set_60 ?_
      refine g_iload_n hC dX10_set_63 rfl ?_
      refine g_iald hC (by assumption) (by omega) (by omega) (by decide) dX10_set_64 ?_
      refine g_iret hC hI rfl dX10_set_65 (Nat.le_of_ble_eq_true rfl) (Nat.le_of_ble_eq_true rfl) ⟨rfl, rfl, _, rfl, ?_⟩
      subst s16
      rw [eL]
      exact ⟨h4, ⟨hV9, hc0.2⟩⟩
    · refine g_tableIn (tgt := 66) hC dX10_set_16 (2) s16 ⟨by decide, by decide⟩ (by decide) (by decide) rfl (by decide) ?_
      refine g_aload_n hC dX10_set_66 rfl ?_
      refine g_getR hC fdX10_41 (by assumption) (by assumption) dX10_set_67 ?_
      refine g_iload_n hC dX10_set_70 rfl ?_
      refine g_iald hC (by assumption) (by omega) (by omega) (by decide) dX10_set_71 ?_
      refine g_iret hC hI rfl dX10_set_72 (Nat.le_of_ble_eq_true rfl) (Nat.le_of_ble_eq_true rfl) ⟨rfl, rfl, _, rfl, ?_⟩
      subst s16
      rw [eL]
      exact ⟨h5, ⟨hV9, hc0.2⟩⟩
    · refine g_tableIn (tgt := 73) hC dX10_set_16 (3) s16 ⟨by decide, by decide⟩ (by decide) (by decide) rfl (by decide) ?_
      refine g_aload_n hC dX10_set_73 rfl ?_
      refine g_getR hC fdX10_47 (by assumption) (by assumption) dX10_set_74 ?_
      refine g_iload_n hC dX10_set_77 rfl ?_
      refine g_zald hC (by assumption) (by omega) (by omega) (by decide) dX10_set_78 ?_
      refine g_if_eq (tgt := 86) hC dX10_set_79 (by decide) ⟨by omega, by omega⟩ (fun h79 => ?_) (fun h79 => ?_)
      · refine g_iconst hC dX10_set_86 ?_
        refine g_iret hC hI rfl dX10_set_87 (Nat.le_of_ble_eq_true rfl) (Nat.le_of_ble_eq_true rfl) ⟨rfl, rfl, _, rfl, ?_⟩
        rw [eL, tellS, if_neg (by omega), if_neg (by omega), if_neg (by omega), if_pos (by omega)]
        exact ⟨by omega, ⟨hV9, hc0.2⟩⟩
      · refine g_iconst hC dX10_set_82 ?_
        refine g_goto (tgt := 87) hC dX10_set_83 (by decide) ?_
        refine g_iret hC hI rfl dX10_set_87 (Nat.le_of_ble_eq_true rfl) (Nat.le_of_ble_eq_true rfl) ⟨rfl, rfl, _, rfl, ?_⟩
        rw [eL, tellS, if_neg (by omega), if_neg (by omega), if_neg (by omega), if_pos (by omega)]
        exact ⟨by omega, ⟨hV9, hc0.2⟩⟩
    · refine g_tableIn (tgt := 88) hC dX10_set_16 (4) s16 ⟨by decide, by decide⟩ (by decide) (by decide) rfl (by decide) ?_
      refine g_aload_n hC dX10_set_88 rfl ?_
      refine g_getR hC fdX10_41 (by assumption) (by assumption) dX10_set_89 ?_
      refine g_iload_n hC dX10_set_92 rfl ?_
      refine g_iald hC (by assumption) (by omega) (by omega) (by decide) dX10_set_93 ?_
      refine g_if_ne (tgt := 101) hC dX10_set_94 (by decide) ⟨by omega, by omega⟩ (fun h94 => ?_) (fun h94 => ?_)
      · refine g_aload_n hC dX10_set_101 rfl ?_
        refine g_getR hC fdX10_44 (by assumption) (by assumption) dX10_set_102 ?_
        refine g_bipush hC dX10_set_105 (by decide +kernel) ?_
        refine g_iload_n hC dX10_set_107 rfl ?_
        refine g_imul hC dX10_set_108 ?_
        refine g_aload_n hC dX10_set_109 rfl ?_
        refine g_getR hC fdX10_41 (by assumption) (by assumption) dX10_set_110 ?_
        refine g_iload_n hC dX10_set_113 rfl ?_
        refine g_iald hC (by assumption) (by omega) (by omega) (by decide) dX10_set_114 ?_
        refine g_iadd hC dX10_set_115 ?_
        refine g_iconst hC dX10_set_116 ?_
        refine g_isub hC dX10_set_117 ?_
        have l6 : mem0 (B 15) (60 * (K : Int) + mem0 (B 14) (K : Int).toNat - 1).toNat = x.2.2.1.getD (x.2.2.2 - 1) 0 := by
          rw [l5, show (60 * (K : Int) + (x.2.2.2 : Int) - 1).toNat = 60 * K + (x.2.2.2 - 1) by omega]
          exact h6 _ (by omega)
        refine g_iald hC (by assumption) (by omega) (by omega) (by decide) dX10_set_118 ?_
        refine g_iret hC hI rfl dX10_set_119 (Nat.le_of_ble_eq_true rfl) (Nat.le_of_ble_eq_true rfl) ⟨rfl, rfl, _, rfl, ?_⟩
        rw [eL, tellS, if_neg (by omega), if_neg (by omega), if_neg (by omega), if_neg (by omega), if_pos (by omega)]
        first
        | (rw [if_neg (by omega)]; exact ⟨rfl, ⟨hV9, hc0.2⟩⟩)
        | (rw [if_pos (by omega), l6]; exact ⟨rfl, ⟨hV9, hc0.2⟩⟩)
      · refine g_iconst hC dX10_set_97 ?_
        refine g_goto (tgt := 119) hC dX10_set_98 (by decide) ?_
        refine g_iret hC hI rfl dX10_set_119 (Nat.le_of_ble_eq_true rfl) (Nat.le_of_ble_eq_true rfl) ⟨rfl, rfl, _, rfl, ?_⟩
        rw [eL, tellS, if_neg (by omega), if_neg (by omega), if_neg (by omega), if_neg (by omega), if_pos (by omega)]
        first
        | (rw [if_neg (by omega)]; exact ⟨rfl, ⟨hV9, hc0.2⟩⟩)
        | (rw [if_pos (by omega), l6]; exact ⟨rfl, ⟨hV9, hc0.2⟩⟩)
    · refine g_tableOut (tgt := 120) hC dX10_set_16 ⟨by omega, by omega⟩ s16 (by decide) ?_
      refine g_iconst hC dX10_set_120 ?_
      refine g_iret hC hI rfl dX10_set_121 (Nat.le_of_ble_eq_true rfl) (Nat.le_of_ble_eq_true rfl) ⟨rfl, rfl, _, rfl, ?_⟩
      rw [eL, tellS, if_neg (by omega), if_neg (by omega), if_neg (by omega), if_neg (by omega), if_neg (by omega)]
      exact ⟨rfl, ⟨hV9, hc0.2⟩⟩
  · refine g_iconst hC dX10_set_13 ?_
    refine g_iret hC hI rfl dX10_set_14 (Nat.le_of_ble_eq_true rfl) (Nat.le_of_ble_eq_true rfl) ⟨rfl, rfl, _, rfl, ?_⟩
    have e9 : setAt ss n = none := (by rcases hx7 with ⟨w, -⟩ | ⟨-, w⟩; omega; exact w)
    have eL : setR ss n w = -1 := by rw [setR, e9]
    rw [eL]
    exact ⟨rfl, ⟨hV9, hc0.2⟩⟩
set_option maxHeartbeats 4000000 in
set_option maxRecDepth 100000 in
theorem kX10_octet (lc : Launch) (D : va_G) (ac : Nat → ClassId) {sh : Nat → Nat × Nat} {rf : Nat → Nat → Option Nat} {mem : Nat → Nat → Int} (m : Nat) (B : Nat → Nat) (rp ex ar : List Int) (ms : List (Option MemT)) (ss : List (Option SetT)) (ch : Lns) (ds : Dfs) (lk : Nat) (g y z : Int) (i : Int) (hM : MO sh rf m B) (hV : MV m B mem rp ms ss ch ds lk ex ar g y z) (kE : ex.length ≤ 244 ∧ ex.length % 4 = 0 ∧ ∀ j, 0 ≤ ex.getD j 0 ∧ ex.getD j 0 < 256) (h_i : inR i) : gMet lc D ac mX10_octet 3 [.ref m, .int (iI i)] 0 0 sh rf mem (pM sh rf (fun r mem1 => ((¬ (0 ≤ i ∧ i < ex.length) ∧ r = 0 ∧ mem1 m 0 = 1) ∨ ((0 ≤ i ∧ i < ex.length) ∧ r = sb (ex.getD i.toNat 0) ∧ mem1 m 0 = 0)) ∧ MV m B mem1 rp ms ss ch ds lk ex ar g y z ∧ chA m B mem mem1)) := by
  refine gMet.mk (by decide) (by intro v hv; simp at hv; (try rcases hv with rfl | rfl) <;> rfl) (Nat.le_of_ble_eq_true rfl) (fun X hC hI => ?_)
  show gG X sh rf mem 0 0 0 [some (.ref m), some (.int (iI i))] []
  have hM9 := hM
  obtain ⟨mo, R4, S4, R5, S5, R6, S6, R7, S7, R8, S8, R9, S9, R10, S10, R11, S11, R12, S12, R13, S13, R14, S14, R15, S15, R16, S16, R17, S17, R19, S19, R20, S20, R21, S21, R22, S22, R25, S25, R26, S26, R27, S27, R30, S30, R31, S31, hBe, hBm, hmB⟩ := hM
  have i_i := h_i
  obtain ⟨i1, i2⟩ := h_i
  have e1 := kE.1
  have o1 := hV.2.2.2.2.2.1.1
  have A0 := MV.code (v := 0) hmB hV
  have A1 := MV.code (v := 1) hmB hV
  have z0 : gup mem m 0 0 m 0 = 0 := gup_s _ _ _ _
  have z1 : gup mem m 0 1 m 0 = 1 := gup_s _ _ _ _
  have sl := sb_le (ex.getD i.toNat 0)
  refine g_aload_n hC dX10_octet_0 rfl ?_
  refine g_iload_n hC dX10_octet_1 rfl ?_
  refine g_if_lt (tgt := 13) hC dX10_octet_2 (by decide) ⟨by omega, by omega⟩ (fun h2 => ?_) (fun h2 => ?_)
  · refine g_iconst hC dX10_octet_13 ?_
    refine g_goto (tgt := 18) hC dX10_octet_14 (by decide) ?_
    refine g_putI hC fdX10_84 (by assumption) rfl rfl dX10_octet_18 ?_
    refine g_aload_n hC dX10_octet_21 rfl ?_
    refine g_getI hC fdX10_84 (by assumption) dX10_octet_22 ?_
    refine g_if_le (tgt := 32) hC dX10_octet_25 (by decide) ⟨by omega, by omega⟩ (fun h25 => ?_) (fun h25 => ?_)
    · refine g_aload_n hC dX10_octet_32 rfl ?_
      refine g_getR hC fdX10_78 (by assumption) (by assumption) dX10_octet_33 ?_
      refine g_iload_n hC dX10_octet_36 rfl ?_
      refine g_iald hC (by assumption) (by omega) (by omega) (by decide) dX10_octet_37 ?_
      have w9 : gup mem m 0 0 (B 30) i.toNat = ex.getD i.toNat 0 := A0.1.2.2.2.2.2.1.2 i.toNat (by omega)
      first | rw [w9] | skip
      refine g_i2b hC dX10_octet_38 ?_
      first | refine g_topI (iI_sb _) ?_ | refine g_topI (a := 0) rfl ?_
      refine g_zret hC hI rfl (by first | exact congrArg _ (iI_byte (by omega) (by omega)) | decide +kernel) dX10_octet_39 (Nat.le_of_ble_eq_true rfl) (Nat.le_of_ble_eq_true rfl) ⟨rfl, rfl, _, rfl, ?_⟩
      first
      | exact ⟨Or.inl ⟨by omega, rfl, z1⟩, A1.1, A1.2.2⟩
      | exact ⟨Or.inr ⟨by omega, rfl, z0⟩, A0.1, A0.2.2⟩
      | (exfalso; omega)
    · refine g_iconst hC dX10_octet_28 ?_
      refine g_goto (tgt := 39) hC dX10_octet_29 (by decide) ?_
      first | refine g_topI (iI_sb _) ?_ | refine g_topI (a := 0) rfl ?_
      refine g_zret hC hI rfl (by first | exact congrArg _ (iI_byte (by omega) (by omega)) | decide +kernel) dX10_octet_39 (Nat.le_of_ble_eq_true rfl) (Nat.le_of_ble_eq_true rfl) ⟨rfl, rfl, _, rfl, ?_⟩
      first
      | exact ⟨Or.inl ⟨by omega, rfl, z1⟩, A1.1, A1.2.2⟩
      | exact ⟨Or.inr ⟨by omega, rfl, z0⟩, A0.1, A0.2.2⟩
      | (exfalso; omega)
  · refine g_iload_n hC dX10_octet_5 rfl ?_
    refine g_aload_n hC dX10_octet_6 rfl ?_
    refine g_getI hC fdX10_191 (by assumption) dX10_octet_7 ?_
    refine g_icmp_lt (tgt := 17) hC dX10_octet_10 (by decide) ⟨by omega, by omega⟩ ⟨by omega, by omega⟩ (fun h10 => ?_) (fun h10 => ?_)
    · refine g_iconst hC dX10_octet_17 ?_
      refine g_putI hC fdX10_84 (by assumption) rfl rfl dX10_octet_18 ?_
      refine g_aload_n hC dX10_octet_21 rfl ?_
      refine g_getI hC fdX10_84 (by assumption) dX10_octet_22 ?_
      refine g_if_le (tgt := 32) hC dX10_octet_25 (by decide) ⟨by omega, by omega⟩ (fun h25 => ?_) (fun h25 => ?_)
      · refine g_aload_n hC dX10_octet_32 rfl ?_
        refine g_getR hC fdX10_78 (by assumption) (by assumption) dX10_octet_33 ?_
        refine g_iload_n hC dX10_octet_36 rfl ?_
        refine g_iald hC (by assumption) (by omega) (by omega) (by decide) dX10_octet_37 ?_
        have w9 : gup mem m 0 0 (B 30) i.toNat = ex.getD i.toNat 0 := A0.1.2.2.2.2.2.1.2 i.toNat (by omega)
        first | rw [w9] | skip
        refine g_i2b hC dX10_octet_38 ?_
        first | refine g_topI (iI_sb _) ?_ | refine g_topI (a := 0) rfl ?_
        refine g_zret hC hI rfl (by first | exact congrArg _ (iI_byte (by omega) (by omega)) | decide +kernel) dX10_octet_39 (Nat.le_of_ble_eq_true rfl) (Nat.le_of_ble_eq_true rfl) ⟨rfl, rfl, _, rfl, ?_⟩
        first
        | exact ⟨Or.inl ⟨by omega, rfl, z1⟩, A1.1, A1.2.2⟩
        | exact ⟨Or.inr ⟨by omega, rfl, z0⟩, A0.1, A0.2.2⟩
        | (exfalso; omega)
      · refine g_iconst hC dX10_octet_28 ?_
        refine g_goto (tgt := 39) hC dX10_octet_29 (by decide) ?_
        first | refine g_topI (iI_sb _) ?_ | refine g_topI (a := 0) rfl ?_
        refine g_zret hC hI rfl (by first | exact congrArg _ (iI_byte (by omega) (by omega)) | decide +kernel) dX10_octet_39 (Nat.le_of_ble_eq_true rfl) (Nat.le_of_ble_eq_true rfl) ⟨rfl, rfl, _, rfl, ?_⟩
        first
        | exact ⟨Or.inl ⟨by omega, rfl, z1⟩, A1.1, A1.2.2⟩
        | exact ⟨Or.inr ⟨by omega, rfl, z0⟩, A0.1, A0.2.2⟩
        | (exfalso; omega)
    · refine g_iconst hC dX10_octet_13 ?_
      refine g_goto (tgt := 18) hC dX10_octet_14 (by decide) ?_
      refine g_putI hC fdX10_84 (by assumption) rfl rfl dX10_octet_18 ?_
      refine g_aload_n hC dX10_octet_21 rfl ?_
      refine g_getI hC fdX10_84 (by assumption) dX10_octet_22 ?_
      refine g_if_le (tgt := 32) hC dX10_octet_25 (by decide) ⟨by omega, by omega⟩ (fun h25 => ?_) (fun h25 => ?_)
      · refine g_aload_n hC dX10_octet_32 rfl ?_
        refine g_getR hC fdX10_78 (by assumption) (by assumption) dX10_octet_33 ?_
        refine g_iload_n hC dX10_octet_36 rfl ?_
        refine g_iald hC (by assumption) (by omega) (by omega) (by decide) dX10_octet_37 ?_
        have w9 : gup mem m 0 0 (B 30) i.toNat = ex.getD i.toNat 0 := A0.1.2.2.2.2.2.1.2 i.toNat (by omega)
        first | rw [w9] | skip
        refine g_i2b hC dX10_octet_38 ?_
        first | refine g_topI (iI_sb _) ?_ | refine g_topI (a := 0) rfl ?_
        refine g_zret hC hI rfl (by first | exact congrArg _ (iI_byte (by omega) (by omega)) | decide +kernel) dX10_octet_39 (Nat.le_of_ble_eq_true rfl) (Nat.le_of_ble_eq_true rfl) ⟨rfl, rfl, _, rfl, ?_⟩
        first
        | exact ⟨Or.inl ⟨by omega, rfl, z1⟩, A1.1, A1.2.2⟩
        | exact ⟨Or.inr ⟨by omega, rfl, z0⟩, A0.1, A0.2.2⟩
        | (exfalso; omega)
      · refine g_iconst hC dX10_octet_28 ?_
        refine g_goto (tgt := 39) hC dX10_octet_29 (by decide) ?_
        first | refine g_topI (iI_sb _) ?_ | refine g_topI (a := 0) rfl ?_
        refine g_zret hC hI rfl (by first | exact congrArg _ (iI_byte (by omega) (by omega)) | decide +kernel) dX10_octet_39 (Nat.le_of_ble_eq_true rfl) (Nat.le_of_ble_eq_true rfl) ⟨rfl, rfl, _, rfl, ?_⟩
        first
        | exact ⟨Or.inl ⟨by omega, rfl, z1⟩, A1.1, A1.2.2⟩
        | exact ⟨Or.inr ⟨by omega, rfl, z0⟩, A0.1, A0.2.2⟩
        | (exfalso; omega)
set_option maxHeartbeats 4000000 in
set_option maxRecDepth 100000 in
theorem kX10_hex (lc : Launch) (D : va_G) (ac : Nat → ClassId) {sh : Nat → Nat × Nat} {rf : Nat → Nat → Option Nat} {mem : Nat → Nat → Int} (d : Int) (hp : 0 ≤ d ∧ d < 16) : gMet lc D ac mX10_hex 0 [.int (iI d)] 0 0 sh rf mem (pP sh rf mem (fun r => r = hexS d)) := by
  refine gMet.mk (by decide) (by intro v hv; simp at hv; (try rcases hv with rfl) <;> rfl) (Nat.le_of_ble_eq_true rfl) (fun X hC hI => ?_)
  show gG X sh rf mem 0 0 0 [some (.int (iI d))] []
  refine g_iload_n hC dX10_hex_0 rfl ?_
  refine g_bipush hC dX10_hex_1 (by decide +kernel) ?_
  refine g_icmp_ge (tgt := 13) hC dX10_hex_3 (by decide) ⟨by omega, by omega⟩ ⟨by omega, by omega⟩ (fun h3 => ?_) (fun h3 => ?_)
  · refine g_bipush hC dX10_hex_13 (by decide +kernel) ?_
    refine g_iload_n hC dX10_hex_15 rfl ?_
    refine g_iadd hC dX10_hex_16 ?_
    refine g_iret hC hI rfl dX10_hex_17 (Nat.le_of_ble_eq_true rfl) (Nat.le_of_ble_eq_true rfl) ⟨rfl, rfl, rfl, _, rfl, ?_⟩
    unfold hexS
    first | rw [if_pos (by omega)] | rw [if_neg (by omega)]
  · refine g_bipush hC dX10_hex_6 (by decide +kernel) ?_
    refine g_iload_n hC dX10_hex_8 rfl ?_
    refine g_iadd hC dX10_hex_9 ?_
    refine g_goto (tgt := 17) hC dX10_hex_10 (by decide) ?_
    refine g_iret hC hI rfl dX10_hex_17 (Nat.le_of_ble_eq_true rfl) (Nat.le_of_ble_eq_true rfl) ⟨rfl, rfl, rfl, _, rfl, ?_⟩
    unfold hexS
    first | rw [if_pos (by omega)] | rw [if_neg (by omega)]
set_option maxHeartbeats 4000000 in
set_option maxRecDepth 100000 in
theorem kX10_other (lc : Launch) (D : va_G) (ac : Nat → ClassId) {sh : Nat → Nat × Nat} {rf : Nat → Nat → Option Nat} {mem : Nat → Nat → Int} (v : Int) (h_v : inR v) : gMet lc D ac mX10_other 0 [.int (iI v)] 0 0 sh rf mem (pP sh rf mem (fun r => r = othS v)) := by
  refine gMet.mk (by decide) (by intro v hv; simp at hv; (try rcases hv with rfl) <;> rfl) (Nat.le_of_ble_eq_true rfl) (fun X hC hI => ?_)
  show gG X sh rf mem 0 0 0 [some (.int (iI v))] []
  have i_v := h_v
  obtain ⟨v1, v2⟩ := h_v
  refine g_iload_n hC dX10_other_0 rfl ?_
  refine g_sipush hC dX10_other_1 (by decide +kernel) ?_
  refine g_icmp_lt (tgt := 20) hC dX10_other_4 (by decide) ⟨by omega, by omega⟩ ⟨by omega, by omega⟩ (fun h4 => ?_) (fun h4 => ?_)
  · refine g_iload_n hC dX10_other_20 rfl ?_
    refine g_sipush hC dX10_other_21 (by decide +kernel) ?_
    refine g_icmp_lt (tgt := 40) hC dX10_other_24 (by decide) ⟨by omega, by omega⟩ ⟨by omega, by omega⟩ (fun h24 => ?_) (fun h24 => ?_)
    · refine g_iload_n hC dX10_other_40 rfl ?_
      refine g_sipush hC dX10_other_41 (by decide +kernel) ?_
      refine g_icmp_lt (tgt := 60) hC dX10_other_44 (by decide) ⟨by omega, by omega⟩ ⟨by omega, by omega⟩ (fun h44 => ?_) (fun h44 => ?_)
      · refine g_iload_n hC dX10_other_60 rfl ?_
        refine g_sipush hC dX10_other_61 (by decide +kernel) ?_
        refine g_icmp_lt (tgt := 82) hC dX10_other_64 (by decide) ⟨by omega, by omega⟩ ⟨by omega, by omega⟩ (fun h64 => ?_) (fun h64 => ?_)
        · refine g_iload_n hC dX10_other_82 rfl ?_
          refine g_bipush hC dX10_other_83 (by decide +kernel) ?_
          refine g_icmp_ne (tgt := 93) hC dX10_other_85 (by decide) ⟨by omega, by omega⟩ ⟨by omega, by omega⟩ (fun h85 => ?_) (fun h85 => ?_)
          · refine g_bipush hC dX10_other_93 (by decide +kernel) ?_
            refine g_iret hC hI rfl dX10_other_95 (Nat.le_of_ble_eq_true rfl) (Nat.le_of_ble_eq_true rfl) ⟨rfl, rfl, rfl, _, rfl, ?_⟩
            rw [othS, if_neg (by omega), if_neg (by omega), if_neg (by omega)]
            first | (rw [if_pos (by omega)]; done) | (rw [if_neg (by omega), if_pos (by omega)]; done) | (rw [if_neg (by omega), if_neg (by omega)]; done)
          · refine g_bipush hC dX10_other_88 (by decide +kernel) ?_
            refine g_goto (tgt := 95) hC dX10_other_90 (by decide) ?_
            refine g_iret hC hI rfl dX10_other_95 (Nat.le_of_ble_eq_true rfl) (Nat.le_of_ble_eq_true rfl) ⟨rfl, rfl, rfl, _, rfl, ?_⟩
            rw [othS, if_neg (by omega), if_neg (by omega), if_neg (by omega)]
            first | (rw [if_pos (by omega)]; done) | (rw [if_neg (by omega), if_pos (by omega)]; done) | (rw [if_neg (by omega), if_neg (by omega)]; done)
        · refine g_iload_n hC dX10_other_67 rfl ?_
          refine g_sipush hC dX10_other_68 (by decide +kernel) ?_
          refine g_icmp_gt (tgt := 82) hC dX10_other_71 (by decide) ⟨by omega, by omega⟩ ⟨by omega, by omega⟩ (fun h71 => ?_) (fun h71 => ?_)
          · refine g_iload_n hC dX10_other_82 rfl ?_
            refine g_bipush hC dX10_other_83 (by decide +kernel) ?_
            refine g_icmp_ne (tgt := 93) hC dX10_other_85 (by decide) ⟨by omega, by omega⟩ ⟨by omega, by omega⟩ (fun h85 => ?_) (fun h85 => ?_)
            · refine g_bipush hC dX10_other_93 (by decide +kernel) ?_
              refine g_iret hC hI rfl dX10_other_95 (Nat.le_of_ble_eq_true rfl) (Nat.le_of_ble_eq_true rfl) ⟨rfl, rfl, rfl, _, rfl, ?_⟩
              rw [othS, if_neg (by omega), if_neg (by omega), if_neg (by omega)]
              first | (rw [if_pos (by omega)]; done) | (rw [if_neg (by omega), if_pos (by omega)]; done) | (rw [if_neg (by omega), if_neg (by omega)]; done)
            · refine g_bipush hC dX10_other_88 (by decide +kernel) ?_
              refine g_goto (tgt := 95) hC dX10_other_90 (by decide) ?_
              refine g_iret hC hI rfl dX10_other_95 (Nat.le_of_ble_eq_true rfl) (Nat.le_of_ble_eq_true rfl) ⟨rfl, rfl, rfl, _, rfl, ?_⟩
              rw [othS, if_neg (by omega), if_neg (by omega), if_neg (by omega)]
              first | (rw [if_pos (by omega)]; done) | (rw [if_neg (by omega), if_pos (by omega)]; done) | (rw [if_neg (by omega), if_neg (by omega)]; done)
          · refine g_iload_n hC dX10_other_74 rfl ?_
            refine g_sipush hC dX10_other_75 (by decide +kernel) ?_
            refine g_isub hC dX10_other_78 ?_
            refine g_goto (tgt := 95) hC dX10_other_79 (by decide) ?_
            refine g_iret hC hI rfl dX10_other_95 (Nat.le_of_ble_eq_true rfl) (Nat.le_of_ble_eq_true rfl) ⟨rfl, rfl, rfl, _, rfl, ?_⟩
            rw [othS, if_neg (by omega), if_neg (by omega), if_neg (by omega)]
            first | (rw [if_pos (by omega)]; done) | (rw [if_neg (by omega), if_pos (by omega)]; done) | (rw [if_neg (by omega), if_neg (by omega)]; done)
      · refine g_iload_n hC dX10_other_47 rfl ?_
        refine g_sipush hC dX10_other_48 (by decide +kernel) ?_
        refine g_icmp_gt (tgt := 60) hC dX10_other_51 (by decide) ⟨by omega, by omega⟩ ⟨by omega, by omega⟩ (fun h51 => ?_) (fun h51 => ?_)
        · refine g_iload_n hC dX10_other_60 rfl ?_
          refine g_sipush hC dX10_other_61 (by decide +kernel) ?_
          refine g_icmp_lt (tgt := 82) hC dX10_other_64 (by decide) ⟨by omega, by omega⟩ ⟨by omega, by omega⟩ (fun h64 => ?_) (fun h64 => ?_)
          · refine g_iload_n hC dX10_other_82 rfl ?_
            refine g_bipush hC dX10_other_83 (by decide +kernel) ?_
            refine g_icmp_ne (tgt := 93) hC dX10_other_85 (by decide) ⟨by omega, by omega⟩ ⟨by omega, by omega⟩ (fun h85 => ?_) (fun h85 => ?_)
            · refine g_bipush hC dX10_other_93 (by decide +kernel) ?_
              refine g_iret hC hI rfl dX10_other_95 (Nat.le_of_ble_eq_true rfl) (Nat.le_of_ble_eq_true rfl) ⟨rfl, rfl, rfl, _, rfl, ?_⟩
              rw [othS, if_neg (by omega), if_neg (by omega), if_neg (by omega)]
              first | (rw [if_pos (by omega)]; done) | (rw [if_neg (by omega), if_pos (by omega)]; done) | (rw [if_neg (by omega), if_neg (by omega)]; done)
            · refine g_bipush hC dX10_other_88 (by decide +kernel) ?_
              refine g_goto (tgt := 95) hC dX10_other_90 (by decide) ?_
              refine g_iret hC hI rfl dX10_other_95 (Nat.le_of_ble_eq_true rfl) (Nat.le_of_ble_eq_true rfl) ⟨rfl, rfl, rfl, _, rfl, ?_⟩
              rw [othS, if_neg (by omega), if_neg (by omega), if_neg (by omega)]
              first | (rw [if_pos (by omega)]; done) | (rw [if_neg (by omega), if_pos (by omega)]; done) | (rw [if_neg (by omega), if_neg (by omega)]; done)
          · refine g_iload_n hC dX10_other_67 rfl ?_
            refine g_sipush hC dX10_other_68 (by decide +kernel) ?_
            refine g_icmp_gt (tgt := 82) hC dX10_other_71 (by decide) ⟨by omega, by omega⟩ ⟨by omega, by omega⟩ (fun h71 => ?_) (fun h71 => ?_)
            · refine g_iload_n hC dX10_other_82 rfl ?_
              refine g_bipush hC dX10_other_83 (by decide +kernel) ?_
              refine g_icmp_ne (tgt := 93) hC dX10_other_85 (by decide) ⟨by omega, by omega⟩ ⟨by omega, by omega⟩ (fun h85 => ?_) (fun h85 => ?_)
              · refine g_bipush hC dX10_other_93 (by decide +kernel) ?_
                refine g_iret hC hI rfl dX10_other_95 (Nat.le_of_ble_eq_true rfl) (Nat.le_of_ble_eq_true rfl) ⟨rfl, rfl, rfl, _, rfl, ?_⟩
                rw [othS, if_neg (by omega), if_neg (by omega), if_neg (by omega)]
                first | (rw [if_pos (by omega)]; done) | (rw [if_neg (by omega), if_pos (by omega)]; done) | (rw [if_neg (by omega), if_neg (by omega)]; done)
              · refine g_bipush hC dX10_other_88 (by decide +kernel) ?_
                refine g_goto (tgt := 95) hC dX10_other_90 (by decide) ?_
                refine g_iret hC hI rfl dX10_other_95 (Nat.le_of_ble_eq_true rfl) (Nat.le_of_ble_eq_true rfl) ⟨rfl, rfl, rfl, _, rfl, ?_⟩
                rw [othS, if_neg (by omega), if_neg (by omega), if_neg (by omega)]
                first | (rw [if_pos (by omega)]; done) | (rw [if_neg (by omega), if_pos (by omega)]; done) | (rw [if_neg (by omega), if_neg (by omega)]; done)
            · refine g_iload_n hC dX10_other_74 rfl ?_
              refine g_sipush hC dX10_other_75 (by decide +kernel) ?_
              refine g_isub hC dX10_other_78 ?_
              refine g_goto (tgt := 95) hC dX10_other_79 (by decide) ?_
              refine g_iret hC hI rfl dX10_other_95 (Nat.le_of_ble_eq_true rfl) (Nat.le_of_ble_eq_true rfl) ⟨rfl, rfl, rfl, _, rfl, ?_⟩
              rw [othS, if_neg (by omega), if_neg (by omega), if_neg (by omega)]
              first | (rw [if_pos (by omega)]; done) | (rw [if_neg (by omega), if_pos (by omega)]; done) | (rw [if_neg (by omega), if_neg (by omega)]; done)
        · refine g_iload_n hC dX10_other_54 rfl ?_
          refine g_sipush hC dX10_other_55 (by decide +kernel) ?_
          refine g_isub hC dX10_other_58 ?_
          refine g_iret hC hI rfl dX10_other_59 (Nat.le_of_ble_eq_true rfl) (Nat.le_of_ble_eq_true rfl) ⟨rfl, rfl, rfl, _, rfl, ?_⟩
          rw [othS, if_neg (by omega), if_neg (by omega), if_pos (by omega)]
    · refine g_iload_n hC dX10_other_27 rfl ?_
      refine g_sipush hC dX10_other_28 (by decide +kernel) ?_
      refine g_icmp_gt (tgt := 40) hC dX10_other_31 (by decide) ⟨by omega, by omega⟩ ⟨by omega, by omega⟩ (fun h31 => ?_) (fun h31 => ?_)
      · refine g_iload_n hC dX10_other_40 rfl ?_
        refine g_sipush hC dX10_other_41 (by decide +kernel) ?_
        refine g_icmp_lt (tgt := 60) hC dX10_other_44 (by decide) ⟨by omega, by omega⟩ ⟨by omega, by omega⟩ (fun h44 => ?_) (fun h44 => ?_)
        · refine g_iload_n hC dX10_other_60 rfl ?_
          refine g_sipush hC dX10_other_61 (by decide +kernel) ?_
          refine g_icmp_lt (tgt := 82) hC dX10_other_64 (by decide) ⟨by omega, by omega⟩ ⟨by omega, by omega⟩ (fun h64 => ?_) (fun h64 => ?_)
          · refine g_iload_n hC dX10_other_82 rfl ?_
            refine g_bipush hC dX10_other_83 (by decide +kernel) ?_
            refine g_icmp_ne (tgt := 93) hC dX10_other_85 (by decide) ⟨by omega, by omega⟩ ⟨by omega, by omega⟩ (fun h85 => ?_) (fun h85 => ?_)
            · refine g_bipush hC dX10_other_93 (by decide +kernel) ?_
              refine g_iret hC hI rfl dX10_other_95 (Nat.le_of_ble_eq_true rfl) (Nat.le_of_ble_eq_true rfl) ⟨rfl, rfl, rfl, _, rfl, ?_⟩
              rw [othS, if_neg (by omega), if_neg (by omega), if_neg (by omega)]
              first | (rw [if_pos (by omega)]; done) | (rw [if_neg (by omega), if_pos (by omega)]; done) | (rw [if_neg (by omega), if_neg (by omega)]; done)
            · refine g_bipush hC dX10_other_88 (by decide +kernel) ?_
              refine g_goto (tgt := 95) hC dX10_other_90 (by decide) ?_
              refine g_iret hC hI rfl dX10_other_95 (Nat.le_of_ble_eq_true rfl) (Nat.le_of_ble_eq_true rfl) ⟨rfl, rfl, rfl, _, rfl, ?_⟩
              rw [othS, if_neg (by omega), if_neg (by omega), if_neg (by omega)]
              first | (rw [if_pos (by omega)]; done) | (rw [if_neg (by omega), if_pos (by omega)]; done) | (rw [if_neg (by omega), if_neg (by omega)]; done)
          · refine g_iload_n hC dX10_other_67 rfl ?_
            refine g_sipush hC dX10_other_68 (by decide +kernel) ?_
            refine g_icmp_gt (tgt := 82) hC dX10_other_71 (by decide) ⟨by omega, by omega⟩ ⟨by omega, by omega⟩ (fun h71 => ?_) (fun h71 => ?_)
            · refine g_iload_n hC dX10_other_82 rfl ?_
              refine g_bipush hC dX10_other_83 (by decide +kernel) ?_
              refine g_icmp_ne (tgt := 93) hC dX10_other_85 (by decide) ⟨by omega, by omega⟩ ⟨by omega, by omega⟩ (fun h85 => ?_) (fun h85 => ?_)
              · refine g_bipush hC dX10_other_93 (by decide +kernel) ?_
                refine g_iret hC hI rfl dX10_other_95 (Nat.le_of_ble_eq_true rfl) (Nat.le_of_ble_eq_true rfl) ⟨rfl, rfl, rfl, _, rfl, ?_⟩
                rw [othS, if_neg (by omega), if_neg (by omega), if_neg (by omega)]
                first | (rw [if_pos (by omega)]; done) | (rw [if_neg (by omega), if_pos (by omega)]; done) | (rw [if_neg (by omega), if_neg (by omega)]; done)
              · refine g_bipush hC dX10_other_88 (by decide +kernel) ?_
                refine g_goto (tgt := 95) hC dX10_other_90 (by decide) ?_
                refine g_iret hC hI rfl dX10_other_95 (Nat.le_of_ble_eq_true rfl) (Nat.le_of_ble_eq_true rfl) ⟨rfl, rfl, rfl, _, rfl, ?_⟩
                rw [othS, if_neg (by omega), if_neg (by omega), if_neg (by omega)]
                first | (rw [if_pos (by omega)]; done) | (rw [if_neg (by omega), if_pos (by omega)]; done) | (rw [if_neg (by omega), if_neg (by omega)]; done)
            · refine g_iload_n hC dX10_other_74 rfl ?_
              refine g_sipush hC dX10_other_75 (by decide +kernel) ?_
              refine g_isub hC dX10_other_78 ?_
              refine g_goto (tgt := 95) hC dX10_other_79 (by decide) ?_
              refine g_iret hC hI rfl dX10_other_95 (Nat.le_of_ble_eq_true rfl) (Nat.le_of_ble_eq_true rfl) ⟨rfl, rfl, rfl, _, rfl, ?_⟩
              rw [othS, if_neg (by omega), if_neg (by omega), if_neg (by omega)]
              first | (rw [if_pos (by omega)]; done) | (rw [if_neg (by omega), if_pos (by omega)]; done) | (rw [if_neg (by omega), if_neg (by omega)]; done)
        · refine g_iload_n hC dX10_other_47 rfl ?_
          refine g_sipush hC dX10_other_48 (by decide +kernel) ?_
          refine g_icmp_gt (tgt := 60) hC dX10_other_51 (by decide) ⟨by omega, by omega⟩ ⟨by omega, by omega⟩ (fun h51 => ?_) (fun h51 => ?_)
          · refine g_iload_n hC dX10_other_60 rfl ?_
            refine g_sipush hC dX10_other_61 (by decide +kernel) ?_
            refine g_icmp_lt (tgt := 82) hC dX10_other_64 (by decide) ⟨by omega, by omega⟩ ⟨by omega, by omega⟩ (fun h64 => ?_) (fun h64 => ?_)
            · refine g_iload_n hC dX10_other_82 rfl ?_
              refine g_bipush hC dX10_other_83 (by decide +kernel) ?_
              refine g_icmp_ne (tgt := 93) hC dX10_other_85 (by decide) ⟨by omega, by omega⟩ ⟨by omega, by omega⟩ (fun h85 => ?_) (fun h85 => ?_)
              · refine g_bipush hC dX10_other_93 (by decide +kernel) ?_
                refine g_iret hC hI rfl dX10_other_95 (Nat.le_of_ble_eq_true rfl) (Nat.le_of_ble_eq_true rfl) ⟨rfl, rfl, rfl, _, rfl, ?_⟩
                rw [othS, if_neg (by omega), if_neg (by omega), if_neg (by omega)]
                first | (rw [if_pos (by omega)]; done) | (rw [if_neg (by omega), if_pos (by omega)]; done) | (rw [if_neg (by omega), if_neg (by omega)]; done)
              · refine g_bipush hC dX10_other_88 (by decide +kernel) ?_
                refine g_goto (tgt := 95) hC dX10_other_90 (by decide) ?_
                refine g_iret hC hI rfl dX10_other_95 (Nat.le_of_ble_eq_true rfl) (Nat.le_of_ble_eq_true rfl) ⟨rfl, rfl, rfl, _, rfl, ?_⟩
                rw [othS, if_neg (by omega), if_neg (by omega), if_neg (by omega)]
                first | (rw [if_pos (by omega)]; done) | (rw [if_neg (by omega), if_pos (by omega)]; done) | (rw [if_neg (by omega), if_neg (by omega)]; done)
            · refine g_iload_n hC dX10_other_67 rfl ?_
              refine g_sipush hC dX10_other_68 (by decide +kernel) ?_
              refine g_icmp_gt (tgt := 82) hC dX10_other_71 (by decide) ⟨by omega, by omega⟩ ⟨by omega, by omega⟩ (fun h71 => ?_) (fun h71 => ?_)
              · refine g_iload_n hC dX10_other_82 rfl ?_
                refine g_bipush hC dX10_other_83 (by decide +kernel) ?_
                refine g_icmp_ne (tgt := 93) hC dX10_other_85 (by decide) ⟨by omega, by omega⟩ ⟨by omega, by omega⟩ (fun h85 => ?_) (fun h85 => ?_)
                · refine g_bipush hC dX10_other_93 (by decide +kernel) ?_
                  refine g_iret hC hI rfl dX10_other_95 (Nat.le_of_ble_eq_true rfl) (Nat.le_of_ble_eq_true rfl) ⟨rfl, rfl, rfl, _, rfl, ?_⟩
                  rw [othS, if_neg (by omega), if_neg (by omega), if_neg (by omega)]
                  first | (rw [if_pos (by omega)]; done) | (rw [if_neg (by omega), if_pos (by omega)]; done) | (rw [if_neg (by omega), if_neg (by omega)]; done)
                · refine g_bipush hC dX10_other_88 (by decide +kernel) ?_
                  refine g_goto (tgt := 95) hC dX10_other_90 (by decide) ?_
                  refine g_iret hC hI rfl dX10_other_95 (Nat.le_of_ble_eq_true rfl) (Nat.le_of_ble_eq_true rfl) ⟨rfl, rfl, rfl, _, rfl, ?_⟩
                  rw [othS, if_neg (by omega), if_neg (by omega), if_neg (by omega)]
                  first | (rw [if_pos (by omega)]; done) | (rw [if_neg (by omega), if_pos (by omega)]; done) | (rw [if_neg (by omega), if_neg (by omega)]; done)
              · refine g_iload_n hC dX10_other_74 rfl ?_
                refine g_sipush hC dX10_other_75 (by decide +kernel) ?_
                refine g_isub hC dX10_other_78 ?_
                refine g_goto (tgt := 95) hC dX10_other_79 (by decide) ?_
                refine g_iret hC hI rfl dX10_other_95 (Nat.le_of_ble_eq_true rfl) (Nat.le_of_ble_eq_true rfl) ⟨rfl, rfl, rfl, _, rfl, ?_⟩
                rw [othS, if_neg (by omega), if_neg (by omega), if_neg (by omega)]
                first | (rw [if_pos (by omega)]; done) | (rw [if_neg (by omega), if_pos (by omega)]; done) | (rw [if_neg (by omega), if_neg (by omega)]; done)
          · refine g_iload_n hC dX10_other_54 rfl ?_
            refine g_sipush hC dX10_other_55 (by decide +kernel) ?_
            refine g_isub hC dX10_other_58 ?_
            refine g_iret hC hI rfl dX10_other_59 (Nat.le_of_ble_eq_true rfl) (Nat.le_of_ble_eq_true rfl) ⟨rfl, rfl, rfl, _, rfl, ?_⟩
            rw [othS, if_neg (by omega), if_neg (by omega), if_pos (by omega)]
      · refine g_iload_n hC dX10_other_34 rfl ?_
        refine g_sipush hC dX10_other_35 (by decide +kernel) ?_
        refine g_isub hC dX10_other_38 ?_
        refine g_iret hC hI rfl dX10_other_39 (Nat.le_of_ble_eq_true rfl) (Nat.le_of_ble_eq_true rfl) ⟨rfl, rfl, rfl, _, rfl, ?_⟩
        rw [othS, if_neg (by omega), if_pos (by omega)]
  · refine g_iload_n hC dX10_other_7 rfl ?_
    refine g_sipush hC dX10_other_8 (by decide +kernel) ?_
    refine g_icmp_gt (tgt := 20) hC dX10_other_11 (by decide) ⟨by omega, by omega⟩ ⟨by omega, by omega⟩ (fun h11 => ?_) (fun h11 => ?_)
    · refine g_iload_n hC dX10_other_20 rfl ?_
      refine g_sipush hC dX10_other_21 (by decide +kernel) ?_
      refine g_icmp_lt (tgt := 40) hC dX10_other_24 (by decide) ⟨by omega, by omega⟩ ⟨by omega, by omega⟩ (fun h24 => ?_) (fun h24 => ?_)
      · refine g_iload_n hC dX10_other_40 rfl ?_
        refine g_sipush hC dX10_other_41 (by decide +kernel) ?_
        refine g_icmp_lt (tgt := 60) hC dX10_other_44 (by decide) ⟨by omega, by omega⟩ ⟨by omega, by omega⟩ (fun h44 => ?_) (fun h44 => ?_)
        · refine g_iload_n hC dX10_other_60 rfl ?_
          refine g_sipush hC dX10_other_61 (by decide +kernel) ?_
          refine g_icmp_lt (tgt := 82) hC dX10_other_64 (by decide) ⟨by omega, by omega⟩ ⟨by omega, by omega⟩ (fun h64 => ?_) (fun h64 => ?_)
          · refine g_iload_n hC dX10_other_82 rfl ?_
            refine g_bipush hC dX10_other_83 (by decide +kernel) ?_
            refine g_icmp_ne (tgt := 93) hC dX10_other_85 (by decide) ⟨by omega, by omega⟩ ⟨by omega, by omega⟩ (fun h85 => ?_) (fun h85 => ?_)
            · refine g_bipush hC dX10_other_93 (by decide +kernel) ?_
              refine g_iret hC hI rfl dX10_other_95 (Nat.le_of_ble_eq_true rfl) (Nat.le_of_ble_eq_true rfl) ⟨rfl, rfl, rfl, _, rfl, ?_⟩
              rw [othS, if_neg (by omega), if_neg (by omega), if_neg (by omega)]
              first | (rw [if_pos (by omega)]; done) | (rw [if_neg (by omega), if_pos (by omega)]; done) | (rw [if_neg (by omega), if_neg (by omega)]; done)
            · refine g_bipush hC dX10_other_88 (by decide +kernel) ?_
              refine g_goto (tgt := 95) hC dX10_other_90 (by decide) ?_
              refine g_iret hC hI rfl dX10_other_95 (Nat.le_of_ble_eq_true rfl) (Nat.le_of_ble_eq_true rfl) ⟨rfl, rfl, rfl, _, rfl, ?_⟩
              rw [othS, if_neg (by omega), if_neg (by omega), if_neg (by omega)]
              first | (rw [if_pos (by omega)]; done) | (rw [if_neg (by omega), if_pos (by omega)]; done) | (rw [if_neg (by omega), if_neg (by omega)]; done)
          · refine g_iload_n hC dX10_other_67 rfl ?_
            refine g_sipush hC dX10_other_68 (by decide +kernel) ?_
            refine g_icmp_gt (tgt := 82) hC dX10_other_71 (by decide) ⟨by omega, by omega⟩ ⟨by omega, by omega⟩ (fun h71 => ?_) (fun h71 => ?_)
            · refine g_iload_n hC dX10_other_82 rfl ?_
              refine g_bipush hC dX10_other_83 (by decide +kernel) ?_
              refine g_icmp_ne (tgt := 93) hC dX10_other_85 (by decide) ⟨by omega, by omega⟩ ⟨by omega, by omega⟩ (fun h85 => ?_) (fun h85 => ?_)
              · refine g_bipush hC dX10_other_93 (by decide +kernel) ?_
                refine g_iret hC hI rfl dX10_other_95 (Nat.le_of_ble_eq_true rfl) (Nat.le_of_ble_eq_true rfl) ⟨rfl, rfl, rfl, _, rfl, ?_⟩
                rw [othS, if_neg (by omega), if_neg (by omega), if_neg (by omega)]
                first | (rw [if_pos (by omega)]; done) | (rw [if_neg (by omega), if_pos (by omega)]; done) | (rw [if_neg (by omega), if_neg (by omega)]; done)
              · refine g_bipush hC dX10_other_88 (by decide +kernel) ?_
                refine g_goto (tgt := 95) hC dX10_other_90 (by decide) ?_
                refine g_iret hC hI rfl dX10_other_95 (Nat.le_of_ble_eq_true rfl) (Nat.le_of_ble_eq_true rfl) ⟨rfl, rfl, rfl, _, rfl, ?_⟩
                rw [othS, if_neg (by omega), if_neg (by omega), if_neg (by omega)]
                first | (rw [if_pos (by omega)]; done) | (rw [if_neg (by omega), if_pos (by omega)]; done) | (rw [if_neg (by omega), if_neg (by omega)]; done)
            · refine g_iload_n hC dX10_other_74 rfl ?_
              refine g_sipush hC dX10_other_75 (by decide +kernel) ?_
              refine g_isub hC dX10_other_78 ?_
              refine g_goto (tgt := 95) hC dX10_other_79 (by decide) ?_
              refine g_iret hC hI rfl dX10_other_95 (Nat.le_of_ble_eq_true rfl) (Nat.le_of_ble_eq_true rfl) ⟨rfl, rfl, rfl, _, rfl, ?_⟩
              rw [othS, if_neg (by omega), if_neg (by omega), if_neg (by omega)]
              first | (rw [if_pos (by omega)]; done) | (rw [if_neg (by omega), if_pos (by omega)]; done) | (rw [if_neg (by omega), if_neg (by omega)]; done)
        · refine g_iload_n hC dX10_other_47 rfl ?_
          refine g_sipush hC dX10_other_48 (by decide +kernel) ?_
          refine g_icmp_gt (tgt := 60) hC dX10_other_51 (by decide) ⟨by omega, by omega⟩ ⟨by omega, by omega⟩ (fun h51 => ?_) (fun h51 => ?_)
          · refine g_iload_n hC dX10_other_60 rfl ?_
            refine g_sipush hC dX10_other_61 (by decide +kernel) ?_
            refine g_icmp_lt (tgt := 82) hC dX10_other_64 (by decide) ⟨by omega, by omega⟩ ⟨by omega, by omega⟩ (fun h64 => ?_) (fun h64 => ?_)
            · refine g_iload_n hC dX10_other_82 rfl ?_
              refine g_bipush hC dX10_other_83 (by decide +kernel) ?_
              refine g_icmp_ne (tgt := 93) hC dX10_other_85 (by decide) ⟨by omega, by omega⟩ ⟨by omega, by omega⟩ (fun h85 => ?_) (fun h85 => ?_)
              · refine g_bipush hC dX10_other_93 (by decide +kernel) ?_
                refine g_iret hC hI rfl dX10_other_95 (Nat.le_of_ble_eq_true rfl) (Nat.le_of_ble_eq_true rfl) ⟨rfl, rfl, rfl, _, rfl, ?_⟩
                rw [othS, if_neg (by omega), if_neg (by omega), if_neg (by omega)]
                first | (rw [if_pos (by omega)]; done) | (rw [if_neg (by omega), if_pos (by omega)]; done) | (rw [if_neg (by omega), if_neg (by omega)]; done)
              · refine g_bipush hC dX10_other_88 (by decide +kernel) ?_
                refine g_goto (tgt := 95) hC dX10_other_90 (by decide) ?_
                refine g_iret hC hI rfl dX10_other_95 (Nat.le_of_ble_eq_true rfl) (Nat.le_of_ble_eq_true rfl) ⟨rfl, rfl, rfl, _, rfl, ?_⟩
                rw [othS, if_neg (by omega), if_neg (by omega), if_neg (by omega)]
                first | (rw [if_pos (by omega)]; done) | (rw [if_neg (by omega), if_pos (by omega)]; done) | (rw [if_neg (by omega), if_neg (by omega)]; done)
            · refine g_iload_n hC dX10_other_67 rfl ?_
              refine g_sipush hC dX10_other_68 (by decide +kernel) ?_
              refine g_icmp_gt (tgt := 82) hC dX10_other_71 (by decide) ⟨by omega, by omega⟩ ⟨by omega, by omega⟩ (fun h71 => ?_) (fun h71 => ?_)
              · refine g_iload_n hC dX10_other_82 rfl ?_
                refine g_bipush hC dX10_other_83 (by decide +kernel) ?_
                refine g_icmp_ne (tgt := 93) hC dX10_other_85 (by decide) ⟨by omega, by omega⟩ ⟨by omega, by omega⟩ (fun h85 => ?_) (fun h85 => ?_)
                · refine g_bipush hC dX10_other_93 (by decide +kernel) ?_
                  refine g_iret hC hI rfl dX10_other_95 (Nat.le_of_ble_eq_true rfl) (Nat.le_of_ble_eq_true rfl) ⟨rfl, rfl, rfl, _, rfl, ?_⟩
                  rw [othS, if_neg (by omega), if_neg (by omega), if_neg (by omega)]
                  first | (rw [if_pos (by omega)]; done) | (rw [if_neg (by omega), if_pos (by omega)]; done) | (rw [if_neg (by omega), if_neg (by omega)]; done)
                · refine g_bipush hC dX10_other_88 (by decide +kernel) ?_
                  refine g_goto (tgt := 95) hC dX10_other_90 (by decide) ?_
                  refine g_iret hC hI rfl dX10_other_95 (Nat.le_of_ble_eq_true rfl) (Nat.le_of_ble_eq_true rfl) ⟨rfl, rfl, rfl, _, rfl, ?_⟩
                  rw [othS, if_neg (by omega), if_neg (by omega), if_neg (by omega)]
                  first | (rw [if_pos (by omega)]; done) | (rw [if_neg (by omega), if_pos (by omega)]; done) | (rw [if_neg (by omega), if_neg (by omega)]; done)
              · refine g_iload_n hC dX10_other_74 rfl ?_
                refine g_sipush hC dX10_other_75 (by decide +kernel) ?_
                refine g_isub hC dX10_other_78 ?_
                refine g_goto (tgt := 95) hC dX10_other_79 (by decide) ?_
                refine g_iret hC hI rfl dX10_other_95 (Nat.le_of_ble_eq_true rfl) (Nat.le_of_ble_eq_true rfl) ⟨rfl, rfl, rfl, _, rfl, ?_⟩
                rw [othS, if_neg (by omega), if_neg (by omega), if_neg (by omega)]
                first | (rw [if_pos (by omega)]; done) | (rw [if_neg (by omega), if_pos (by omega)]; done) | (rw [if_neg (by omega), if_neg (by omega)]; done)
          · refine g_iload_n hC dX10_other_54 rfl ?_
            refine g_sipush hC dX10_other_55 (by decide +kernel) ?_
            refine g_isub hC dX10_other_58 ?_
            refine g_iret hC hI rfl dX10_other_59 (Nat.le_of_ble_eq_true rfl) (Nat.le_of_ble_eq_true rfl) ⟨rfl, rfl, rfl, _, rfl, ?_⟩
            rw [othS, if_neg (by omega), if_neg (by omega), if_pos (by omega)]
      · refine g_iload_n hC dX10_other_27 rfl ?_
        refine g_sipush hC dX10_other_28 (by decide +kernel) ?_
        refine g_icmp_gt (tgt := 40) hC dX10_other_31 (by decide) ⟨by omega, by omega⟩ ⟨by omega, by omega⟩ (fun h31 => ?_) (fun h31 => ?_)
        · refine g_iload_n hC dX10_other_40 rfl ?_
          refine g_sipush hC dX10_other_41 (by decide +kernel) ?_
          refine g_icmp_lt (tgt := 60) hC dX10_other_44 (by decide) ⟨by omega, by omega⟩ ⟨by omega, by omega⟩ (fun h44 => ?_) (fun h44 => ?_)
          · refine g_iload_n hC dX10_other_60 rfl ?_
            refine g_sipush hC dX10_other_61 (by decide +kernel) ?_
            refine g_icmp_lt (tgt := 82) hC dX10_other_64 (by decide) ⟨by omega, by omega⟩ ⟨by omega, by omega⟩ (fun h64 => ?_) (fun h64 => ?_)
            · refine g_iload_n hC dX10_other_82 rfl ?_
              refine g_bipush hC dX10_other_83 (by decide +kernel) ?_
              refine g_icmp_ne (tgt := 93) hC dX10_other_85 (by decide) ⟨by omega, by omega⟩ ⟨by omega, by omega⟩ (fun h85 => ?_) (fun h85 => ?_)
              · refine g_bipush hC dX10_other_93 (by decide +kernel) ?_
                refine g_iret hC hI rfl dX10_other_95 (Nat.le_of_ble_eq_true rfl) (Nat.le_of_ble_eq_true rfl) ⟨rfl, rfl, rfl, _, rfl, ?_⟩
                rw [othS, if_neg (by omega), if_neg (by omega), if_neg (by omega)]
                first | (rw [if_pos (by omega)]; done) | (rw [if_neg (by omega), if_pos (by omega)]; done) | (rw [if_neg (by omega), if_neg (by omega)]; done)
              · refine g_bipush hC dX10_other_88 (by decide +kernel) ?_
                refine g_goto (tgt := 95) hC dX10_other_90 (by decide) ?_
                refine g_iret hC hI rfl dX10_other_95 (Nat.le_of_ble_eq_true rfl) (Nat.le_of_ble_eq_true rfl) ⟨rfl, rfl, rfl, _, rfl, ?_⟩
                rw [othS, if_neg (by omega), if_neg (by omega), if_neg (by omega)]
                first | (rw [if_pos (by omega)]; done) | (rw [if_neg (by omega), if_pos (by omega)]; done) | (rw [if_neg (by omega), if_neg (by omega)]; done)
            · refine g_iload_n hC dX10_other_67 rfl ?_
              refine g_sipush hC dX10_other_68 (by decide +kernel) ?_
              refine g_icmp_gt (tgt := 82) hC dX10_other_71 (by decide) ⟨by omega, by omega⟩ ⟨by omega, by omega⟩ (fun h71 => ?_) (fun h71 => ?_)
              · refine g_iload_n hC dX10_other_82 rfl ?_
                refine g_bipush hC dX10_other_83 (by decide +kernel) ?_
                refine g_icmp_ne (tgt := 93) hC dX10_other_85 (by decide) ⟨by omega, by omega⟩ ⟨by omega, by omega⟩ (fun h85 => ?_) (fun h85 => ?_)
                · refine g_bipush hC dX10_other_93 (by decide +kernel) ?_
                  refine g_iret hC hI rfl dX10_other_95 (Nat.le_of_ble_eq_true rfl) (Nat.le_of_ble_eq_true rfl) ⟨rfl, rfl, rfl, _, rfl, ?_⟩
                  rw [othS, if_neg (by omega), if_neg (by omega), if_neg (by omega)]
                  first | (rw [if_pos (by omega)]; done) | (rw [if_neg (by omega), if_pos (by omega)]; done) | (rw [if_neg (by omega), if_neg (by omega)]; done)
                · refine g_bipush hC dX10_other_88 (by decide +kernel) ?_
                  refine g_goto (tgt := 95) hC dX10_other_90 (by decide) ?_
                  refine g_iret hC hI rfl dX10_other_95 (Nat.le_of_ble_eq_true rfl) (Nat.le_of_ble_eq_true rfl) ⟨rfl, rfl, rfl, _, rfl, ?_⟩
                  rw [othS, if_neg (by omega), if_neg (by omega), if_neg (by omega)]
                  first | (rw [if_pos (by omega)]; done) | (rw [if_neg (by omega), if_pos (by omega)]; done) | (rw [if_neg (by omega), if_neg (by omega)]; done)
              · refine g_iload_n hC dX10_other_74 rfl ?_
                refine g_sipush hC dX10_other_75 (by decide +kernel) ?_
                refine g_isub hC dX10_other_78 ?_
                refine g_goto (tgt := 95) hC dX10_other_79 (by decide) ?_
                refine g_iret hC hI rfl dX10_other_95 (Nat.le_of_ble_eq_true rfl) (Nat.le_of_ble_eq_true rfl) ⟨rfl, rfl, rfl, _, rfl, ?_⟩
                rw [othS, if_neg (by omega), if_neg (by omega), if_neg (by omega)]
                first | (rw [if_pos (by omega)]; done) | (rw [if_neg (by omega), if_pos (by omega)]; done) | (rw [if_neg (by omega), if_neg (by omega)]; done)
          · refine g_iload_n hC dX10_other_47 rfl ?_
            refine g_sipush hC dX10_other_48 (by decide +kernel) ?_
            refine g_icmp_gt (tgt := 60) hC dX10_other_51 (by decide) ⟨by omega, by omega⟩ ⟨by omega, by omega⟩ (fun h51 => ?_) (fun h51 => ?_)
            · refine g_iload_n hC dX10_other_60 rfl ?_
              refine g_sipush hC dX10_other_61 (by decide +kernel) ?_
              refine g_icmp_lt (tgt := 82) hC dX10_other_64 (by decide) ⟨by omega, by omega⟩ ⟨by omega, by omega⟩ (fun h64 => ?_) (fun h64 => ?_)
              · refine g_iload_n hC dX10_other_82 rfl ?_
                refine g_bipush hC dX10_other_83 (by decide +kernel) ?_
                refine g_icmp_ne (tgt := 93) hC dX10_other_85 (by decide) ⟨by omega, by omega⟩ ⟨by omega, by omega⟩ (fun h85 => ?_) (fun h85 => ?_)
                · refine g_bipush hC dX10_other_93 (by decide +kernel) ?_
                  refine g_iret hC hI rfl dX10_other_95 (Nat.le_of_ble_eq_true rfl) (Nat.le_of_ble_eq_true rfl) ⟨rfl, rfl, rfl, _, rfl, ?_⟩
                  rw [othS, if_neg (by omega), if_neg (by omega), if_neg (by omega)]
                  first | (rw [if_pos (by omega)]; done) | (rw [if_neg (by omega), if_pos (by omega)]; done) | (rw [if_neg (by omega), if_neg (by omega)]; done)
                · refine g_bipush hC dX10_other_88 (by decide +kernel) ?_
                  refine g_goto (tgt := 95) hC dX10_other_90 (by decide) ?_
                  refine g_iret hC hI rfl dX10_other_95 (Nat.le_of_ble_eq_true rfl) (Nat.le_of_ble_eq_true rfl) ⟨rfl, rfl, rfl, _, rfl, ?_⟩
                  rw [othS, if_neg (by omega), if_neg (by omega), if_neg (by omega)]
                  first | (rw [if_pos (by omega)]; done) | (rw [if_neg (by omega), if_pos (by omega)]; done) | (rw [if_neg (by omega), if_neg (by omega)]; done)
              · refine g_iload_n hC dX10_other_67 rfl ?_
                refine g_sipush hC dX10_other_68 (by decide +kernel) ?_
                refine g_icmp_gt (tgt := 82) hC dX10_other_71 (by decide) ⟨by omega, by omega⟩ ⟨by omega, by omega⟩ (fun h71 => ?_) (fun h71 => ?_)
                · refine g_iload_n hC dX10_other_82 rfl ?_
                  refine g_bipush hC dX10_other_83 (by decide +kernel) ?_
                  refine g_icmp_ne (tgt := 93) hC dX10_other_85 (by decide) ⟨by omega, by omega⟩ ⟨by omega, by omega⟩ (fun h85 => ?_) (fun h85 => ?_)
                  · refine g_bipush hC dX10_other_93 (by decide +kernel) ?_
                    refine g_iret hC hI rfl dX10_other_95 (Nat.le_of_ble_eq_true rfl) (Nat.le_of_ble_eq_true rfl) ⟨rfl, rfl, rfl, _, rfl, ?_⟩
                    rw [othS, if_neg (by omega), if_neg (by omega), if_neg (by omega)]
                    first | (rw [if_pos (by omega)]; done) | (rw [if_neg (by omega), if_pos (by omega)]; done) | (rw [if_neg (by omega), if_neg (by omega)]; done)
                  · refine g_bipush hC dX10_other_88 (by decide +kernel) ?_
                    refine g_goto (tgt := 95) hC dX10_other_90 (by decide) ?_
                    refine g_iret hC hI rfl dX10_other_95 (Nat.le_of_ble_eq_true rfl) (Nat.le_of_ble_eq_true rfl) ⟨rfl, rfl, rfl, _, rfl, ?_⟩
                    rw [othS, if_neg (by omega), if_neg (by omega), if_neg (by omega)]
                    first | (rw [if_pos (by omega)]; done) | (rw [if_neg (by omega), if_pos (by omega)]; done) | (rw [if_neg (by omega), if_neg (by omega)]; done)
                · refine g_iload_n hC dX10_other_74 rfl ?_
                  refine g_sipush hC dX10_other_75 (by decide +kernel) ?_
                  refine g_isub hC dX10_other_78 ?_
                  refine g_goto (tgt := 95) hC dX10_other_79 (by decide) ?_
                  refine g_iret hC hI rfl dX10_other_95 (Nat.le_of_ble_eq_true rfl) (Nat.le_of_ble_eq_true rfl) ⟨rfl, rfl, rfl, _, rfl, ?_⟩
                  rw [othS, if_neg (by omega), if_neg (by omega), if_neg (by omega)]
                  first | (rw [if_pos (by omega)]; done) | (rw [if_neg (by omega), if_pos (by omega)]; done) | (rw [if_neg (by omega), if_neg (by omega)]; done)
            · refine g_iload_n hC dX10_other_54 rfl ?_
              refine g_sipush hC dX10_other_55 (by decide +kernel) ?_
              refine g_isub hC dX10_other_58 ?_
              refine g_iret hC hI rfl dX10_other_59 (Nat.le_of_ble_eq_true rfl) (Nat.le_of_ble_eq_true rfl) ⟨rfl, rfl, rfl, _, rfl, ?_⟩
              rw [othS, if_neg (by omega), if_neg (by omega), if_pos (by omega)]
        · refine g_iload_n hC dX10_other_34 rfl ?_
          refine g_sipush hC dX10_other_35 (by decide +kernel) ?_
          refine g_isub hC dX10_other_38 ?_
          refine g_iret hC hI rfl dX10_other_39 (Nat.le_of_ble_eq_true rfl) (Nat.le_of_ble_eq_true rfl) ⟨rfl, rfl, rfl, _, rfl, ?_⟩
          rw [othS, if_neg (by omega), if_pos (by omega)]
    · refine g_iload_n hC dX10_other_14 rfl ?_
      refine g_sipush hC dX10_other_15 (by decide +kernel) ?_
      refine g_isub hC dX10_other_18 ?_
      refine g_iret hC hI rfl dX10_other_19 (Nat.le_of_ble_eq_true rfl) (Nat.le_of_ble_eq_true rfl) ⟨rfl, rfl, rfl, _, rfl, ?_⟩
      rw [othS, if_pos (by omega)]
