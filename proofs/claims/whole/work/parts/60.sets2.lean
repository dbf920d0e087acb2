section MA
variable {ss : List (Option SetT)}
theorem delS_no {n y : Int} (h : ¬ (y = 0 ∧ delC ss n = 0)) : delS ss n y = ss := if_neg h
theorem delS_yes {n y : Int} (h : y = 0 ∧ delC ss n = 0) : delS ss n y = ss.set (n - 1).toNat none := if_pos h
theorem delC_eq {n : Int} {q : SetT} (e : setAt ss n = some q) : delC ss n = if q.2.1 = 1 then 8 else 0 := by rw [delC, e]
theorem verC_eq {n : Int} {q : SetT} (e : setAt ss n = some q) : verC ss n = if q.2.2.2 = q.2.2.1.length then 4 else 0 := by rw [verC, e]
theorem take_all {l : List Int} {k : Nat} (h : l.length = k) : l.take k = l := by rw [← h]; exact List.take_length
theorem take_succ1 {l : List Int} {k : Nat} (h : k < l.length) : l.take (k + 1) = l.take k ++ [l.getD k 0] := by
  rw [List.take_succ, List.getElem?_eq_getElem h, List.getD_eq_getElem?_getD, List.getElem?_eq_getElem h]
  rfl
end MA
set_option maxHeartbeats 4000000 in
set_option maxRecDepth 100000 in
theorem kX10_delete (lc : Launch) (D : va_G) (ac : Nat → ClassId) {sh : Nat → Nat × Nat} {rf : Nat → Nat → Option Nat} {mem : Nat → Nat → Int} (m : Nat) (B : Nat → Nat) (rp ex ar : List Int) (ms : List (Option MemT)) (ss : List (Option SetT)) (ch : Lns) (ds : Dfs) (lk : Nat) (g y z : Int) (n : Int) (hM : MO sh rf m B) (hV : MV m B mem rp ms ss ch ds lk ex ar g y z) (kS : okS ss) (kT : 0 ≤ g ∧ g ≤ 12 ∧ (y = 0 ∨ y = 1)) (h_n : inR n) : gMet lc D ac mX10_delete 3 [.ref m, .int (iI n)] 0 0 sh rf mem (pM sh rf (fun r mem1 => r = delC ss n ∧ MV m B mem1 rp ms (delS ss n y) ch ds lk ex ar (stG g (delC ss n)) y (stZ y z (delC ss n)) ∧ chA m B mem mem1)) := by
  refine gMet.mk (by decide) (by intro v hv; simp at hv; (try rcases hv with rfl | rfl) <;> rfl) (Nat.le_of_ble_eq_true rfl) (fun X hC hI => ?_)
  show gG X sh rf mem 0 0 0 [some (.ref m), some (.int (iI n)), none] []
  have hM9 := hM
  obtain ⟨mo, R4, S4, R5, S5, R6, S6, R7, S7, R8, S8, R9, S9, R10, S10, R11, S11, R12, S12, R13, S13, R14, S14, R15, S15, R16, S16, R17, S17, R19, S19, R20, S20, R21, S21, R22, S22, R25, S25, R26, S26, R27, S27, R30, S30, R31, S31, hBe, hBm, hmB⟩ := hM
  have i_n := h_n
  obtain ⟨n1, n2⟩ := h_n
  obtain ⟨mem0, e0⟩ : ∃ q, q = gup mem m 0 0 := ⟨_, rfl⟩
  obtain ⟨hV0, hc0⟩ := MV.code (v := 0) hmB hV
  rw [← e0] at hV0 hc0
  have hV9 := hV0
  obtain ⟨hvL, hvM, hvS, hvC, hvD, hvO, hvI, hvT⟩ := hV0
  refine g_aload_n hC dX10_delete_0 rfl ?_
  refine g_iconst hC dX10_delete_1 ?_
  refine g_putI hC fdX10_84 (by assumption) rfl rfl dX10_delete_2 ?_
  rw [← e0]
  refine g_aload_n hC dX10_delete_5 rfl ?_
  refine g_iload_n hC dX10_delete_6 rfl ?_
  refine g_VP hC (kX10_isSet (gl X) (gD X) (gac X) m B ss n hM9 hvS kS i_n) cvX10_isSet lkX10_154 (by assumption) rfl rfl (Nat.le_of_ble_eq_true rfl) (hI.fit (Nat.le_of_ble_eq_true rfl) (Nat.le_of_ble_eq_true rfl) (Nat.le_of_ble_eq_true rfl)) dX10_delete_7 (fun x7 hx7 => ?_)
  refine g_if_ne (tgt := 16) hC dX10_delete_10 (by decide) ⟨by omega, by omega⟩ (fun h10 => ?_) (fun h10 => ?_)
  · have qs : setAt ss n ≠ none := by
      rcases hx7 with ⟨-, w⟩ | ⟨w, -⟩
      · exact w
      · omega
    obtain ⟨x, ex0⟩ := Option.ne_none_iff_exists'.mp qs
    obtain ⟨K, eK, K1, K2, K3, K4, hSK, k1, k2, k3, k4, k5⟩ := setAt_view2 hvS kS ex0
    subst eK
    have ec := delC_eq ex0
    have l2 : mem0 (B 16) (K : Int).toNat = x.2.1 := hSK.2.2.1
    have e9 : ((K : Int) - 1).toNat = K - 1 := by omega
    have K9 : K - 1 + 1 = K := by omega
    refine g_aload_n hC dX10_delete_16 rfl ?_
    refine g_getR hC fdX10_47 (by assumption) (by assumption) dX10_delete_17 ?_
    refine g_iload_n hC dX10_delete_20 rfl ?_
    refine g_zald hC (by assumption) (by omega) (by omega) (by decide) dX10_delete_21 ?_
    refine g_if_eq (tgt := 30) hC dX10_delete_22 (by decide) ⟨by omega, by omega⟩ (fun h22 => ?_) (fun h22 => ?_)
    · refine g_iconst hC dX10_delete_30 ?_
      refine g_topI (a := delC ss K) (by first | (exfalso; omega) | (rw [ec, if_pos (by omega)]; done) | (rw [ec, if_neg (by omega)]; done)) ?_
      have cr : 0 ≤ delC ss K ∧ delC ss K ≤ 12 := by rw [ec]; split <;> omega
      refine g_istore_n hC 2 rfl dX10_delete_31 (Nat.le_of_ble_eq_true rfl) ?_
      dsimp only [List.set]
      refine g_aload_n hC dX10_delete_32 rfl ?_
      refine g_iload_n hC dX10_delete_33 rfl ?_
      refine g_VM hC (kX10_acts (gl X) (gD X) (gac X) m B g y z _ hM9 hvT kT cr) cvX10_acts lkX10_151 (by assumption) rfl rfl (Nat.le_of_ble_eq_true rfl) (hI.fit (Nat.le_of_ble_eq_true rfl) (Nat.le_of_ble_eq_true rfl) (Nat.le_of_ble_eq_true rfl)) dX10_delete_34 (fun x34 mem34 hx34 => ?_)
      obtain ⟨a1, a2, a3⟩ := hx34
      refine g_if_eq (tgt := 51) hC dX10_delete_37 (by decide) ⟨by omega, by omega⟩ (fun h37 => ?_) (fun h37 => ?_)
      · refine g_iload_n hC dX10_delete_51 rfl ?_
        refine g_iret hC hI rfl dX10_delete_52 (Nat.le_of_ble_eq_true rfl) (Nat.le_of_ble_eq_true rfl) ⟨rfl, rfl, _, rfl, ?_⟩
        first
        | (rw [delS_no (by omega)]
           exact ⟨rfl, ⟨hvL.st a3 (by decide), hvM.st a3 (by decide), hvS.st a3 (by decide), hvC.st a3 (by decide), hvD.st a3 (by decide), hvO.st a3 (by decide), hvI.st a3 (by decide), a2⟩, chA.trans hc0.2 a3.2⟩)
        | (rw [delS_yes ⟨by omega, by omega⟩, e9]
           obtain ⟨g1, g2⟩ := vS_gone hBe hmB (hvS.st a3 (by decide)) K4
           rw [K9] at g1 g2
           have a4 := a3.trans g2
           exact ⟨rfl, ⟨hvL.st a4 (by decide), hvM.st a4 (by decide), g1, hvC.st a4 (by decide), hvD.st a4 (by decide), hvO.st a4 (by decide), hvI.st a4 (by decide), a2.st g2 (by decide)⟩, chA.trans hc0.2 a4.2⟩)
      · refine g_iload_n hC dX10_delete_40 rfl ?_
        refine g_if_ne (tgt := 51) hC dX10_delete_41 (by decide) ⟨by omega, by omega⟩ (fun h41 => ?_) (fun h41 => ?_)
        · refine g_iload_n hC dX10_delete_51 rfl ?_
          refine g_iret hC hI rfl dX10_delete_52 (Nat.le_of_ble_eq_true rfl) (Nat.le_of_ble_eq_true rfl) ⟨rfl, rfl, _, rfl, ?_⟩
          first
          | (rw [delS_no (by omega)]
             exact ⟨rfl, ⟨hvL.st a3 (by decide), hvM.st a3 (by decide), hvS.st a3 (by decide), hvC.st a3 (by decide), hvD.st a3 (by decide), hvO.st a3 (by decide), hvI.st a3 (by decide), a2⟩, chA.trans hc0.2 a3.2⟩)
          | (rw [delS_yes ⟨by omega, by omega⟩, e9]
             obtain ⟨g1, g2⟩ := vS_gone hBe hmB (hvS.st a3 (by decide)) K4
             rw [K9] at g1 g2
             have a4 := a3.trans g2
             exact ⟨rfl, ⟨hvL.st a4 (by decide), hvM.st a4 (by decide), g1, hvC.st a4 (by decide), hvD.st a4 (by decide), hvO.st a4 (by decide), hvI.st a4 (by decide), a2.st g2 (by decide)⟩, chA.trans hc0.2 a4.2⟩)
        · refine g_aload_n hC dX10_delete_44 rfl ?_
          refine g_getR hC fdX10_50 (by assumption) (by assumption) dX10_delete_45 ?_
          refine g_iload_n hC dX10_delete_48 rfl ?_
          refine g_iconst hC dX10_delete_49 ?_
          refine g_zast hC (by assumption) (by omega) (by omega) (by decide) (by omega) dX10_delete_50 ?_
          refine g_iload_n hC dX10_delete_51 rfl ?_
          refine g_iret hC hI rfl dX10_delete_52 (Nat.le_of_ble_eq_true rfl) (Nat.le_of_ble_eq_true rfl) ⟨rfl, rfl, _, rfl, ?_⟩
          first
          | (rw [delS_no (by omega)]
             exact ⟨rfl, ⟨hvL.st a3 (by decide), hvM.st a3 (by decide), hvS.st a3 (by decide), hvC.st a3 (by decide), hvD.st a3 (by decide), hvO.st a3 (by decide), hvI.st a3 (by decide), a2⟩, chA.trans hc0.2 a3.2⟩)
          | (rw [delS_yes ⟨by omega, by omega⟩, e9]
             obtain ⟨g1, g2⟩ := vS_gone hBe hmB (hvS.st a3 (by decide)) K4
             rw [K9] at g1 g2
             have a4 := a3.trans g2
             exact ⟨rfl, ⟨hvL.st a4 (by decide), hvM.st a4 (by decide), g1, hvC.st a4 (by decide), hvD.st a4 (by decide), hvO.st a4 (by decide), hvI.st a4 (by decide), a2.st g2 (by decide)⟩, chA.trans hc0.2 a4.2⟩)
    · refine g_bipush hC dX10_delete_25 (by decide +kernel) ?_
      refine g_goto (tgt := 31) hC dX10_delete_27 (by decide) ?_
      refine g_topI (a := delC ss K) (by first | (exfalso; omega) | (rw [ec, if_pos (by omega)]; done) | (rw [ec, if_neg (by omega)]; done)) ?_
      have cr : 0 ≤ delC ss K ∧ delC ss K ≤ 12 := by rw [ec]; split <;> omega
      refine g_istore_n hC 2 rfl dX10_delete_31 (Nat.le_of_ble_eq_true rfl) ?_
      dsimp only [List.set]
      refine g_aload_n hC dX10_delete_32 rfl ?_
      refine g_iload_n hC dX10_delete_33 rfl ?_
      refine g_VM hC (kX10_acts (gl X) (gD X) (gac X) m B g y z _ hM9 hvT kT cr) cvX10_acts lkX10_151 (by assumption) rfl rfl (Nat.le_of_ble_eq_true rfl) (hI.fit (Nat.le_of_ble_eq_true rfl) (Nat.le_of_ble_eq_true rfl) (Nat.le_of_ble_eq_true rfl)) dX10_delete_34 (fun x34 mem34 hx34 => ?_)
      obtain ⟨a1, a2, a3⟩ := hx34
      refine g_if_eq (tgt := 51) hC dX10_delete_37 (by decide) ⟨by omega, by omega⟩ (fun h37 => ?_) (fun h37 => ?_)
      · refine g_iload_n hC dX10_delete_51 rfl ?_
        refine g_iret hC hI rfl dX10_delete_52 (Nat.le_of_ble_eq_true rfl) (Nat.le_of_ble_eq_true rfl) ⟨rfl, rfl, _, rfl, ?_⟩
        first
        | (rw [delS_no (by omega)]
           exact ⟨rfl, ⟨hvL.st a3 (by decide), hvM.st a3 (by decide), hvS.st a3 (by decide), hvC.st a3 (by decide), hvD.st a3 (by decide), hvO.st a3 (by decide), hvI.st a3 (by decide), a2⟩, chA.trans hc0.2 a3.2⟩)
        | (rw [delS_yes ⟨by omega, by omega⟩, e9]
           obtain ⟨g1, g2⟩ := vS_gone hBe hmB (hvS.st a3 (by decide)) K4
           rw [K9] at g1 g2
           have a4 := a3.trans g2
           exact ⟨rfl, ⟨hvL.st a4 (by decide), hvM.st a4 (by decide), g1, hvC.st a4 (by decide), hvD.st a4 (by decide), hvO.st a4 (by decide), hvI.st a4 (by decide), a2.st g2 (by decide)⟩, chA.trans hc0.2 a4.2⟩)
      · refine g_iload_n hC dX10_delete_40 rfl ?_
        refine g_if_ne (tgt := 51) hC dX10_delete_41 (by decide) ⟨by omega, by omega⟩ (fun h41 => ?_) (fun h41 => ?_)
        · refine g_iload_n hC dX10_delete_51 rfl ?_
          refine g_iret hC hI rfl dX10_delete_52 (Nat.le_of_ble_eq_true rfl) (Nat.le_of_ble_eq_true rfl) ⟨rfl, rfl, _, rfl, ?_⟩
          first
          | (rw [delS_no (by omega)]
             exact ⟨rfl, ⟨hvL.st a3 (by decide), hvM.st a3 (by decide), hvS.st a3 (by decide), hvC.st a3 (by decide), hvD.st a3 (by decide), hvO.st a3 (by decide), hvI.st a3 (by decide), a2⟩, chA.trans hc0.2 a3.2⟩)
          | (rw [delS_yes ⟨by omega, by omega⟩, e9]
             obtain ⟨g1, g2⟩ := vS_gone hBe hmB (hvS.st a3 (by decide)) K4
             rw [K9] at g1 g2
             have a4 := a3.trans g2
             exact ⟨rfl, ⟨hvL.st a4 (by decide), hvM.st a4 (by decide), g1, hvC.st a4 (by decide), hvD.st a4 (by decide), hvO.st a4 (by decide), hvI.st a4 (by decide), a2.st g2 (by decide)⟩, chA.trans hc0.2 a4.2⟩)
        · refine g_aload_n hC dX10_delete_44 rfl ?_
          refine g_getR hC fdX10_50 (by assumption) (by assumption) dX10_delete_45 ?_
          refine g_iload_n hC dX10_delete_48 rfl ?_
          refine g_iconst hC dX10_delete_49 ?_
          refine g_zast hC (by assumption) (by omega) (by omega) (by decide) (by omega) dX10_delete_50 ?_
          refine g_iload_n hC dX10_delete_51 rfl ?_
          refine g_iret hC hI rfl dX10_delete_52 (Nat.le_of_ble_eq_true rfl) (Nat.le_of_ble_eq_true rfl) ⟨rfl, rfl, _, rfl, ?_⟩
          first
          | (rw [delS_no (by omega)]
             exact ⟨rfl, ⟨hvL.st a3 (by decide), hvM.st a3 (by decide), hvS.st a3 (by decide), hvC.st a3 (by decide), hvD.st a3 (by decide), hvO.st a3 (by decide), hvI.st a3 (by decide), a2⟩, chA.trans hc0.2 a3.2⟩)
          | (rw [delS_yes ⟨by omega, by omega⟩, e9]
             obtain ⟨g1, g2⟩ := vS_gone hBe hmB (hvS.st a3 (by decide)) K4
             rw [K9] at g1 g2
             have a4 := a3.trans g2
             exact ⟨rfl, ⟨hvL.st a4 (by decide), hvM.st a4 (by decide), g1, hvC.st a4 (by decide), hvD.st a4 (by decide), hvO.st a4 (by decide), hvI.st a4 (by decide), a2.st g2 (by decide)⟩, chA.trans hc0.2 a4.2⟩)
  · refine g_bipush hC dX10_delete_13 (by decide +kernel) ?_
    refine g_iret hC hI rfl dX10_delete_15 (Nat.le_of_ble_eq_true rfl) (Nat.le_of_ble_eq_true rfl) ⟨rfl, rfl, _, rfl, ?_⟩
    have e9 : setAt ss n = none := (by rcases hx7 with ⟨w, -⟩ | ⟨-, w⟩; omega; exact w)
    have u0 : delC ss n = -2 := by rw [delC, e9]
    have u2 : delS ss n y = ss := delS_no (by omega)
    rw [u2]
    have e8 : delC ss n = -2 := by rw [delC, e9]
    rw [e8, show stG g (-2) = g from rfl, show stZ y z (-2) = z from if_neg (by omega)]
    exact ⟨rfl, ⟨hV9, hc0.2⟩⟩
set_option maxHeartbeats 4000000 in
set_option maxRecDepth 100000 in
theorem kX10_alter (lc : Launch) (D : va_G) (ac : Nat → ClassId) {sh : Nat → Nat × Nat} {rf : Nat → Nat → Option Nat} {mem : Nat → Nat → Int} (m : Nat) (B : Nat → Nat) (rp ex ar : List Int) (ms : List (Option MemT)) (ss : List (Option SetT)) (ch : Lns) (ds : Dfs) (lk : Nat) (g y z : Int) (n q : Int) (hM : MO sh rf m B) (hV : MV m B mem rp ms ss ch ds lk ex ar g y z) (kS : okS ss) (kT : 0 ≤ g ∧ g ≤ 12 ∧ (y = 0 ∨ y = 1)) (h_n : inR n) (h_q : inR q) : gMet lc D ac mX10_alter 3 [.ref m, .int (iI n), .int (iI q)] 0 0 sh rf mem (pM sh rf (fun r mem1 => r = altC ss n q ∧ MV m B mem1 rp ms (altS ss n q y) ch ds lk ex ar (stG g (altC ss n q)) y (stZ y z (altC ss n q)) ∧ chA m B mem mem1)) := by
  refine gMet.mk (by decide) (by intro v hv; simp at hv; (try rcases hv with rfl | rfl | rfl) <;> rfl) (Nat.le_of_ble_eq_true rfl) (fun X hC hI => ?_)
  show gG X sh rf mem 0 0 0 [some (.ref m), some (.int (iI n)), some (.int (iI q)), none, none] []
  have hM9 := hM
  obtain ⟨mo, R4, S4, R5, S5, R6, S6, R7, S7, R8, S8, R9, S9, R10, S10, R11, S11, R12, S12, R13, S13, R14, S14, R15, S15, R16, S16, R17, S17, R19, S19, R20, S20, R21, S21, R22, S22, R25, S25, R26, S26, R27, S27, R30, S30, R31, S31, hBe, hBm, hmB⟩ := hM
  have i_n := h_n
  obtain ⟨n1, n2⟩ := h_n
  have i_q := h_q
  obtain ⟨q1, q2⟩ := h_q
  obtain ⟨mem0, e0⟩ : ∃ q, q = gup mem m 0 0 := ⟨_, rfl⟩
  obtain ⟨hV0, hc0⟩ := MV.code (v := 0) hmB hV
  rw [← e0] at hV0 hc0
  have hV9 := hV0
  obtain ⟨hvL, hvM, hvS, hvC, hvD, hvO, hvI, hvT⟩ := hV0
  have le1 := numS_le q ss
  have le2 := kS.1
  refine g_aload_n hC dX10_alter_0 rfl ?_
  refine g_iconst hC dX10_alter_1 ?_
  refine g_putI hC fdX10_84 (by assumption) rfl rfl dX10_alter_2 ?_
  rw [← e0]
  refine g_aload_n hC dX10_alter_5 rfl ?_
  refine g_iload_n hC dX10_alter_6 rfl ?_
  refine g_VP hC (kX10_isSet (gl X) (gD X) (gac X) m B ss n hM9 hvS kS i_n) cvX10_isSet lkX10_154 (by assumption) rfl rfl (Nat.le_of_ble_eq_true rfl) (hI.fit (Nat.le_of_ble_eq_true rfl) (Nat.le_of_ble_eq_true rfl) (Nat.le_of_ble_eq_true rfl)) dX10_alter_7 (fun x7 hx7 => ?_)
  refine g_if_ne (tgt := 16) hC dX10_alter_10 (by decide) ⟨by omega, by omega⟩ (fun h10 => ?_) (fun h10 => ?_)
  · have qs : setAt ss n ≠ none := by
      rcases hx7 with ⟨-, w⟩ | ⟨w, -⟩
      · exact w
      · omega
    obtain ⟨x, ex0⟩ := Option.ne_none_iff_exists'.mp qs
    obtain ⟨K, eK, K1, K2, K3, K4, hSK, k1, k2, k3, k4, k5⟩ := setAt_view2 hvS kS ex0
    subst eK
    have ec := altC_eq (m := q) ex0
    have e9 : ((K : Int) - 1).toNat = K - 1 := by omega
    have K9 : K - 1 + 1 = K := by omega
    refine g_iload_n hC dX10_alter_16 rfl ?_
    refine g_SP hC (kX10_isName (gl X) (gD X) (gac X) q i_q) csX10_isName lkX10_100 rfl rfl (Nat.le_of_ble_eq_true rfl) (hI.fit (Nat.le_of_ble_eq_true rfl) (Nat.le_of_ble_eq_true rfl) (Nat.le_of_ble_eq_true rfl)) dX10_alter_17 (fun x17 hx17 => ?_)
    refine g_if_ne (tgt := 26) hC dX10_alter_20 (by decide) ⟨by omega, by omega⟩ (fun h20 => ?_) (fun h20 => ?_)
    · refine g_aload_n hC dX10_alter_26 rfl ?_
      refine g_iload_n hC dX10_alter_27 rfl ?_
      refine g_VP hC (kX10_setOf (gl X) (gD X) (gac X) m B ss q hM9 hvS kS i_q) cvX10_setOf lkX10_157 (by assumption) rfl rfl (Nat.le_of_ble_eq_true rfl) (hI.fit (Nat.le_of_ble_eq_true rfl) (Nat.le_of_ble_eq_true rfl) (Nat.le_of_ble_eq_true rfl)) dX10_alter_28 (fun x28 hx28 => ?_)
      subst hx28
      refine g_istore_n hC 3 rfl dX10_alter_31 (Nat.le_of_ble_eq_true rfl) ?_
      dsimp only [List.set]
      refine g_iload_n hC dX10_alter_32 rfl ?_
      refine g_iload_n hC dX10_alter_33 rfl ?_
      refine g_icmp_ne (tgt := 41) hC dX10_alter_34 (by decide) ⟨by omega, by omega⟩ ⟨by omega, by omega⟩ (fun h34 => ?_) (fun h34 => ?_)
      · refine g_iload_n hC dX10_alter_41 rfl ?_
        refine g_if_le (tgt := 50) hC dX10_alter_42 (by decide) ⟨by omega, by omega⟩ (fun h42 => ?_) (fun h42 => ?_)
        · refine g_iconst hC dX10_alter_50 ?_
          refine g_topI (a := altC ss K q) (by first | (exfalso; omega) | (rw [ec, if_neg (by omega), if_neg (by omega), if_pos (by omega)]; done) | (rw [ec, if_neg (by omega), if_neg (by omega), if_neg (by omega)]; done) | (rw [ec, if_neg (by omega), if_pos (by omega)]; done)) ?_
          have cr : 0 ≤ altC ss K q ∧ altC ss K q ≤ 12 := by
            rw [ec, if_neg (by omega)]
            split
            · omega
            · first | omega | (split <;> omega)
          refine g_istore hC dX10_alter_51 (Nat.le_of_ble_eq_true rfl) ?_
          dsimp only [List.set]
          refine g_aload_n hC dX10_alter_53 rfl ?_
          refine g_iload hC dX10_alter_54 rfl ?_
          refine g_VM hC (kX10_acts (gl X) (gD X) (gac X) m B g y z _ hM9 hvT kT cr) cvX10_acts lkX10_151 (by assumption) rfl rfl (Nat.le_of_ble_eq_true rfl) (hI.fit (Nat.le_of_ble_eq_true rfl) (Nat.le_of_ble_eq_true rfl) (Nat.le_of_ble_eq_true rfl)) dX10_alter_56 (fun x56 mem56 hx56 => ?_)
          obtain ⟨a1, a2, a3⟩ := hx56
          refine g_if_eq (tgt := 74) hC dX10_alter_59 (by decide) ⟨by omega, by omega⟩ (fun h59 => ?_) (fun h59 => ?_)
          · refine g_iload hC dX10_alter_74 rfl ?_
            refine g_iret hC hI rfl dX10_alter_76 (Nat.le_of_ble_eq_true rfl) (Nat.le_of_ble_eq_true rfl) ⟨rfl, rfl, _, rfl, ?_⟩
            first
            | (rw [altS_no (by omega)]
               exact ⟨rfl, ⟨hvL.st a3 (by decide), hvM.st a3 (by decide), hvS.st a3 (by decide), hvC.st a3 (by decide), hvD.st a3 (by decide), hvO.st a3 (by decide), hvI.st a3 (by decide), a2⟩, chA.trans hc0.2 a3.2⟩)
            | (rw [altS_yes ex0 ⟨by omega, by omega⟩, e9]
               have c3 : chF m B mem56 (gup mem56 (B 12) (K : Int).toNat q) [12] := chF.row hBe hmB
               have hS5 := hvS.st a3 (by decide)
               obtain ⟨K', eK', -, -, -, -, ⟨h1, h2, h3, h4, h5, h6⟩, -⟩ := setAt_view2 hS5 kS ex0
               obtain rfl : K = K' := by omega
               have sk : sB1 B (gup mem56 (B 12) (K : Int).toNat q) K (q, x.2) := ⟨by rw [(c3.1 17 (by decide)).2]; exact h1, gup_s _ _ _ _, by rw [(c3.1 16 (by decide)).2]; exact h3, by rw [(c3.1 13 (by decide)).2]; exact h4, by rw [(c3.1 14 (by decide)).2]; exact h5, by rw [(c3.1 15 (by decide)).2]; exact h6⟩
               have fk : frS B mem56 (gup mem56 (B 12) (K : Int).toNat q) K := by
                 refine ⟨fun j hj => ?_, fun j hj => ?_⟩
                 · simp [gup, hBe, hj]
                 · simp [gup, hBe]
               have key := vS_set (k := K - 1) hS5 kS K4 (by rw [K9]; exact sk) (by rw [K9]; exact fk) (c3.1 3 (by decide)).1
               have a4 := a3.trans c3
               exact ⟨rfl, ⟨hvL.st a4 (by decide), hvM.st a4 (by decide), key, hvC.st a4 (by decide), hvD.st a4 (by decide), hvO.st a4 (by decide), hvI.st a4 (by decide), a2.st c3 (by decide)⟩, chA.trans hc0.2 a4.2⟩)
          · refine g_iload hC dX10_alter_62 rfl ?_
            refine g_if_ne (tgt := 74) hC dX10_alter_64 (by decide) ⟨by omega, by omega⟩ (fun h64 => ?_) (fun h64 => ?_)
            · refine g_iload hC dX10_alter_74 rfl ?_
              refine g_iret hC hI rfl dX10_alter_76 (Nat.le_of_ble_eq_true rfl) (Nat.le_of_ble_eq_true rfl) ⟨rfl, rfl, _, rfl, ?_⟩
              first
              | (rw [altS_no (by omega)]
                 exact ⟨rfl, ⟨hvL.st a3 (by decide), hvM.st a3 (by decide), hvS.st a3 (by decide), hvC.st a3 (by decide), hvD.st a3 (by decide), hvO.st a3 (by decide), hvI.st a3 (by decide), a2⟩, chA.trans hc0.2 a3.2⟩)
              | (rw [altS_yes ex0 ⟨by omega, by omega⟩, e9]
                 have c3 : chF m B mem56 (gup mem56 (B 12) (K : Int).toNat q) [12] := chF.row hBe hmB
                 have hS5 := hvS.st a3 (by decide)
                 obtain ⟨K', eK', -, -, -, -, ⟨h1, h2, h3, h4, h5, h6⟩, -⟩ := setAt_view2 hS5 kS ex0
                 obtain rfl : K = K' := by omega
                 have sk : sB1 B (gup mem56 (B 12) (K : Int).toNat q) K (q, x.2) := ⟨by rw [(c3.1 17 (by decide)).2]; exact h1, gup_s _ _ _ _, by rw [(c3.1 16 (by decide)).2]; exact h3, by rw [(c3.1 13 (by decide)).2]; exact h4, by rw [(c3.1 14 (by decide)).2]; exact h5, by rw [(c3.1 15 (by decide)).2]; exact h6⟩
                 have fk : frS B mem56 (gup mem56 (B 12) (K : Int).toNat q) K := by
                   refine ⟨fun j hj => ?_, fun j hj => ?_⟩
                   · simp [gup, hBe, hj]
                   · simp [gup, hBe]
                 have key := vS_set (k := K - 1) hS5 kS K4 (by rw [K9]; exact sk) (by rw [K9]; exact fk) (c3.1 3 (by decide)).1
                 have a4 := a3.trans c3
                 exact ⟨rfl, ⟨hvL.st a4 (by decide), hvM.st a4 (by decide), key, hvC.st a4 (by decide), hvD.st a4 (by decide), hvO.st a4 (by decide), hvI.st a4 (by decide), a2.st c3 (by decide)⟩, chA.trans hc0.2 a4.2⟩)
            · refine g_aload_n hC dX10_alter_67 rfl ?_
              refine g_getR hC fdX10_35 (by assumption) (by assumption) dX10_alter_68 ?_
              refine g_iload_n hC dX10_alter_71 rfl ?_
              refine g_iload_n hC dX10_alter_72 rfl ?_
              refine g_iast hC (by assumption) (by omega) (by omega) (by decide) dX10_alter_73 ?_
              refine g_iload hC dX10_alter_74 rfl ?_
              refine g_iret hC hI rfl dX10_alter_76 (Nat.le_of_ble_eq_true rfl) (Nat.le_of_ble_eq_true rfl) ⟨rfl, rfl, _, rfl, ?_⟩
              first
              | (rw [altS_no (by omega)]
                 exact ⟨rfl, ⟨hvL.st a3 (by decide), hvM.st a3 (by decide), hvS.st a3 (by decide), hvC.st a3 (by decide), hvD.st a3 (by decide), hvO.st a3 (by decide), hvI.st a3 (by decide), a2⟩, chA.trans hc0.2 a3.2⟩)
              | (rw [altS_yes ex0 ⟨by omega, by omega⟩, e9]
                 have c3 : chF m B mem56 (gup mem56 (B 12) (K : Int).toNat q) [12] := chF.row hBe hmB
                 have hS5 := hvS.st a3 (by decide)
                 obtain ⟨K', eK', -, -, -, -, ⟨h1, h2, h3, h4, h5, h6⟩, -⟩ := setAt_view2 hS5 kS ex0
                 obtain rfl : K = K' := by omega
                 have sk : sB1 B (gup mem56 (B 12) (K : Int).toNat q) K (q, x.2) := ⟨by rw [(c3.1 17 (by decide)).2]; exact h1, gup_s _ _ _ _, by rw [(c3.1 16 (by decide)).2]; exact h3, by rw [(c3.1 13 (by decide)).2]; exact h4, by rw [(c3.1 14 (by decide)).2]; exact h5, by rw [(c3.1 15 (by decide)).2]; exact h6⟩
                 have fk : frS B mem56 (gup mem56 (B 12) (K : Int).toNat q) K := by
                   refine ⟨fun j hj => ?_, fun j hj => ?_⟩
                   · simp [gup, hBe, hj]
                   · simp [gup, hBe]
                 have key := vS_set (k := K - 1) hS5 kS K4 (by rw [K9]; exact sk) (by rw [K9]; exact fk) (c3.1 3 (by decide)).1
                 have a4 := a3.trans c3
                 exact ⟨rfl, ⟨hvL.st a4 (by decide), hvM.st a4 (by decide), key, hvC.st a4 (by decide), hvD.st a4 (by decide), hvO.st a4 (by decide), hvI.st a4 (by decide), a2.st c3 (by decide)⟩, chA.trans hc0.2 a4.2⟩)
        · refine g_bipush hC dX10_alter_45 (by decide +kernel) ?_
          refine g_goto (tgt := 51) hC dX10_alter_47 (by decide) ?_
          refine g_topI (a := altC ss K q) (by first | (exfalso; omega) | (rw [ec, if_neg (by omega), if_neg (by omega), if_pos (by omega)]; done) | (rw [ec, if_neg (by omega), if_neg (by omega), if_neg (by omega)]; done) | (rw [ec, if_neg (by omega), if_pos (by omega)]; done)) ?_
          have cr : 0 ≤ altC ss K q ∧ altC ss K q ≤ 12 := by
            rw [ec, if_neg (by omega)]
            split
            · omega
            · first | omega | (split <;> omega)
          refine g_istore hC dX10_alter_51 (Nat.le_of_ble_eq_true rfl) ?_
          dsimp only [List.set]
          refine g_aload_n hC dX10_alter_53 rfl ?_
          refine g_iload hC dX10_alter_54 rfl ?_
          refine g_VM hC (kX10_acts (gl X) (gD X) (gac X) m B g y z _ hM9 hvT kT cr) cvX10_acts lkX10_151 (by assumption) rfl rfl (Nat.le_of_ble_eq_true rfl) (hI.fit (Nat.le_of_ble_eq_true rfl) (Nat.le_of_ble_eq_true rfl) (Nat.le_of_ble_eq_true rfl)) dX10_alter_56 (fun x56 mem56 hx56 => ?_)
          obtain ⟨a1, a2, a3⟩ := hx56
          refine g_if_eq (tgt := 74) hC dX10_alter_59 (by decide) ⟨by omega, by omega⟩ (fun h59 => ?_) (fun h59 => ?_)
          · refine g_iload hC dX10_alter_74 rfl ?_
            refine g_iret hC hI rfl dX10_alter_76 (Nat.le_of_ble_eq_true rfl) (Nat.le_of_ble_eq_true rfl) ⟨rfl, rfl, _, rfl, ?_⟩
            first
            | (rw [altS_no (by omega)]
               exact ⟨rfl, ⟨hvL.st a3 (by decide), hvM.st a3 (by decide), hvS.st a3 (by decide), hvC.st a3 (by decide), hvD.st a3 (by decide), hvO.st a3 (by decide), hvI.st a3 (by decide), a2⟩, chA.trans hc0.2 a3.2⟩)
            | (rw [altS_yes ex0 ⟨by omega, by omega⟩, e9]
               have c3 : chF m B mem56 (gup mem56 (B 12) (K : Int).toNat q) [12] := chF.row hBe hmB
               have hS5 := hvS.st a3 (by decide)
               obtain ⟨K', eK', -, -, -, -, ⟨h1, h2, h3, h4, h5, h6⟩, -⟩ := setAt_view2 hS5 kS ex0
               obtain rfl : K = K' := by omega
               have sk : sB1 B (gup mem56 (B 12) (K : Int).toNat q) K (q, x.2) := ⟨by rw [(c3.1 17 (by decide)).2]; exact h1, gup_s _ _ _ _, by rw [(c3.1 16 (by decide)).2]; exact h3, by rw [(c3.1 13 (by decide)).2]; exact h4, by rw [(c3.1 14 (by decide)).2]; exact h5, by rw [(c3.1 15 (by decide)).2]; exact h6⟩
               have fk : frS B mem56 (gup mem56 (B 12) (K : Int).toNat q) K := by
                 refine ⟨fun j hj => ?_, fun j hj => ?_⟩
                 · simp [gup, hBe, hj]
                 · simp [gup, hBe]
               have key := vS_set (k := K - 1) hS5 kS K4 (by rw [K9]; exact sk) (by rw [K9]; exact fk) (c3.1 3 (by decide)).1
               have a4 := a3.trans c3
               exact ⟨rfl, ⟨hvL.st a4 (by decide), hvM.st a4 (by decide), key, hvC.st a4 (by decide), hvD.st a4 (by decide), hvO.st a4 (by decide), hvI.st a4 (by decide), a2.st c3 (by decide)⟩, chA.trans hc0.2 a4.2⟩)
          · refine g_iload hC dX10_alter_62 rfl ?_
            refine g_if_ne (tgt := 74) hC dX10_alter_64 (by decide) ⟨by omega, by omega⟩ (fun h64 => ?_) (fun h64 => ?_)
            · refine g_iload hC dX10_alter_74 rfl ?_
              refine g_iret hC hI rfl dX10_alter_76 (Nat.le_of_ble_eq_true rfl) (Nat.le_of_ble_eq_true rfl) ⟨rfl, rfl, _, rfl, ?_⟩
              first
              | (rw [altS_no (by omega)]
                 exact ⟨rfl, ⟨hvL.st a3 (by decide), hvM.st a3 (by decide), hvS.st a3 (by decide), hvC.st a3 (by decide), hvD.st a3 (by decide), hvO.st a3 (by decide), hvI.st a3 (by decide), a2⟩, chA.trans hc0.2 a3.2⟩)
              | (rw [altS_yes ex0 ⟨by omega, by omega⟩, e9]
                 have c3 : chF m B mem56 (gup mem56 (B 12) (K : Int).toNat q) [12] := chF.row hBe hmB
                 have hS5 := hvS.st a3 (by decide)
                 obtain ⟨K', eK', -, -, -, -, ⟨h1, h2, h3, h4, h5, h6⟩, -⟩ := setAt_view2 hS5 kS ex0
                 obtain rfl : K = K' := by omega
                 have sk : sB1 B (gup mem56 (B 12) (K : Int).toNat q) K (q, x.2) := ⟨by rw [(c3.1 17 (by decide)).2]; exact h1, gup_s _ _ _ _, by rw [(c3.1 16 (by decide)).2]; exact h3, by rw [(c3.1 13 (by decide)).2]; exact h4, by rw [(c3.1 14 (by decide)).2]; exact h5, by rw [(c3.1 15 (by decide)).2]; exact h6⟩
                 have fk : frS B mem56 (gup mem56 (B 12) (K : Int).toNat q) K := by
                   refine ⟨fun j hj => ?_, fun j hj => ?_⟩
                   · simp [gup, hBe, hj]
                   · simp [gup, hBe]
                 have key := vS_set (k := K - 1) hS5 kS K4 (by rw [K9]; exact sk) (by rw [K9]; exact fk) (c3.1 3 (by decide)).1
                 have a4 := a3.trans c3
                 exact ⟨rfl, ⟨hvL.st a4 (by decide), hvM.st a4 (by decide), key, hvC.st a4 (by decide), hvD.st a4 (by decide), hvO.st a4 (by decide), hvI.st a4 (by decide), a2.st c3 (by decide)⟩, chA.trans hc0.2 a4.2⟩)
            · refine g_aload_n hC dX10_alter_67 rfl ?_
              refine g_getR hC fdX10_35 (by assumption) (by assumption) dX10_alter_68 ?_
              refine g_iload_n hC dX10_alter_71 rfl ?_
              refine g_iload_n hC dX10_alter_72 rfl ?_
              refine g_iast hC (by assumption) (by omega) (by omega) (by decide) dX10_alter_73 ?_
              refine g_iload hC dX10_alter_74 rfl ?_
              refine g_iret hC hI rfl dX10_alter_76 (Nat.le_of_ble_eq_true rfl) (Nat.le_of_ble_eq_true rfl) ⟨rfl, rfl, _, rfl, ?_⟩
              first
              | (rw [altS_no (by omega)]
                 exact ⟨rfl, ⟨hvL.st a3 (by decide), hvM.st a3 (by decide), hvS.st a3 (by decide), hvC.st a3 (by decide), hvD.st a3 (by decide), hvO.st a3 (by decide), hvI.st a3 (by decide), a2⟩, chA.trans hc0.2 a3.2⟩)
              | (rw [altS_yes ex0 ⟨by omega, by omega⟩, e9]
                 have c3 : chF m B mem56 (gup mem56 (B 12) (K : Int).toNat q) [12] := chF.row hBe hmB
                 have hS5 := hvS.st a3 (by decide)
                 obtain ⟨K', eK', -, -, -, -, ⟨h1, h2, h3, h4, h5, h6⟩, -⟩ := setAt_view2 hS5 kS ex0
                 obtain rfl : K = K' := by omega
                 have sk : sB1 B (gup mem56 (B 12) (K : Int).toNat q) K (q, x.2) := ⟨by rw [(c3.1 17 (by decide)).2]; exact h1, gup_s _ _ _ _, by rw [(c3.1 16 (by decide)).2]; exact h3, by rw [(c3.1 13 (by decide)).2]; exact h4, by rw [(c3.1 14 (by decide)).2]; exact h5, by rw [(c3.1 15 (by decide)).2]; exact h6⟩
                 have fk : frS B mem56 (gup mem56 (B 12) (K : Int).toNat q) K := by
                   refine ⟨fun j hj => ?_, fun j hj => ?_⟩
                   · simp [gup, hBe, hj]
                   · simp [gup, hBe]
                 have key := vS_set (k := K - 1) hS5 kS K4 (by rw [K9]; exact sk) (by rw [K9]; exact fk) (c3.1 3 (by decide)).1
                 have a4 := a3.trans c3
                 exact ⟨rfl, ⟨hvL.st a4 (by decide), hvM.st a4 (by decide), key, hvC.st a4 (by decide), hvD.st a4 (by decide), hvO.st a4 (by decide), hvI.st a4 (by decide), a2.st c3 (by decide)⟩, chA.trans hc0.2 a4.2⟩)
      · refine g_iconst hC dX10_alter_37 ?_
        refine g_goto (tgt := 51) hC dX10_alter_38 (by decide) ?_
        refine g_topI (a := altC ss K q) (by first | (exfalso; omega) | (rw [ec, if_neg (by omega), if_neg (by omega), if_pos (by omega)]; done) | (rw [ec, if_neg (by omega), if_neg (by omega), if_neg (by omega)]; done) | (rw [ec, if_neg (by omega), if_pos (by omega)]; done)) ?_
        have cr : 0 ≤ altC ss K q ∧ altC ss K q ≤ 12 := by
          rw [ec, if_neg (by omega)]
          split
          · omega
          · first | omega | (split <;> omega)
        refine g_istore hC dX10_alter_51 (Nat.le_of_ble_eq_true rfl) ?_
        dsimp only [List.set]
        refine g_aload_n hC dX10_alter_53 rfl ?_
        refine g_iload hC dX10_alter_54 rfl ?_
        refine g_VM hC (kX10_acts (gl X) (gD X) (gac X) m B g y z _ hM9 hvT kT cr) cvX10_acts lkX10_151 (by assumption) rfl rfl (Nat.le_of_ble_eq_true rfl) (hI.fit (Nat.le_of_ble_eq_true rfl) (Nat.le_of_ble_eq_true rfl) (Nat.le_of_ble_eq_true rfl)) dX10_alter_56 (fun x56 mem56 hx56 => ?_)
        obtain ⟨a1, a2, a3⟩ := hx56
        refine g_if_eq (tgt := 74) hC dX10_alter_59 (by decide) ⟨by omega, by omega⟩ (fun h59 => ?_) (fun h59 => ?_)
        · refine g_iload hC dX10_alter_74 rfl ?_
          refine g_iret hC hI rfl dX10_alter_76 (Nat.le_of_ble_eq_true rfl) (Nat.le_of_ble_eq_true rfl) ⟨rfl, rfl, _, rfl, ?_⟩
          first
          | (rw [altS_no (by omega)]
             exact ⟨rfl, ⟨hvL.st a3 (by decide), hvM.st a3 (by decide), hvS.st a3 (by decide), hvC.st a3 (by decide), hvD.st a3 (by decide), hvO.st a3 (by decide), hvI.st a3 (by decide), a2⟩, chA.trans hc0.2 a3.2⟩)
          | (rw [altS_yes ex0 ⟨by omega, by omega⟩, e9]
             have c3 : chF m B mem56 (gup mem56 (B 12) (K : Int).toNat q) [12] := chF.row hBe hmB
             have hS5 := hvS.st a3 (by decide)
             obtain ⟨K', eK', -, -, -, -, ⟨h1, h2, h3, h4, h5, h6⟩, -⟩ := setAt_view2 hS5 kS ex0
             obtain rfl : K = K' := by omega
             have sk : sB1 B (gup mem56 (B 12) (K : Int).toNat q) K (q, x.2) := ⟨by rw [(c3.1 17 (by decide)).2]; exact h1, gup_s _ _ _ _, by rw [(c3.1 16 (by decide)).2]; exact h3, by rw [(c3.1 13 (by decide)).2]; exact h4, by rw [(c3.1 14 (by decide)).2]; exact h5, by rw [(c3.1 15 (by decide)).2]; exact h6⟩
             have fk : frS B mem56 (gup mem56 (B 12) (K : Int).toNat q) K := by
               refine ⟨fun j hj => ?_, fun j hj => ?_⟩
               · simp [gup, hBe, hj]
               · simp [gup, hBe]
             have key := vS_set (k := K - 1) hS5 kS K4 (by rw [K9]; exact sk) (by rw [K9]; exact fk) (c3.1 3 (by decide)).1
             have a4 := a3.trans c3
             exact ⟨rfl, ⟨hvL.st a4 (by decide), hvM.st a4 (by decide), key, hvC.st a4 (by decide), hvD.st a4 (by decide), hvO.st a4 (by decide), hvI.st a4 (by decide), a2.st c3 (by decide)⟩, chA.trans hc0.2 a4.2⟩)
        · refine g_iload hC dX10_alter_62 rfl ?_
          refine g_if_ne (tgt := 74) hC dX10_alter_64 (by decide) ⟨by omega, by omega⟩ (fun h64 => ?_) (fun h64 => ?_)
          · refine g_iload hC dX10_alter_74 rfl ?_
            refine g_iret hC hI rfl dX10_alter_76 (Nat.le_of_ble_eq_true rfl) (Nat.le_of_ble_eq_true rfl) ⟨rfl, rfl, _, rfl, ?_⟩
            first
            | (rw [altS_no (by omega)]
               exact ⟨rfl, ⟨hvL.st a3 (by decide), hvM.st a3 (by decide), hvS.st a3 (by decide), hvC.st a3 (by decide), hvD.st a3 (by decide), hvO.st a3 (by decide), hvI.st a3 (by decide), a2⟩, chA.trans hc0.2 a3.2⟩)
            | (rw [altS_yes ex0 ⟨by omega, by omega⟩, e9]
               have c3 : chF m B mem56 (gup mem56 (B 12) (K : Int).toNat q) [12] := chF.row hBe hmB
               have hS5 := hvS.st a3 (by decide)
               obtain ⟨K', eK', -, -, -, -, ⟨h1, h2, h3, h4, h5, h6⟩, -⟩ := setAt_view2 hS5 kS ex0
               obtain rfl : K = K' := by omega
               have sk : sB1 B (gup mem56 (B 12) (K : Int).toNat q) K (q, x.2) := ⟨by rw [(c3.1 17 (by decide)).2]; exact h1, gup_s _ _ _ _, by rw [(c3.1 16 (by decide)).2]; exact h3, by rw [(c3.1 13 (by decide)).2]; exact h4, by rw [(c3.1 14 (by decide)).2]; exact h5, by rw [(c3.1 15 (by decide)).2]; exact h6⟩
               have fk : frS B mem56 (gup mem56 (B 12) (K : Int).toNat q) K := by
                 refine ⟨fun j hj => ?_, fun j hj => ?_⟩
                 · simp [gup, hBe, hj]
                 · simp [gup, hBe]
               have key := vS_set (k := K - 1) hS5 kS K4 (by rw [K9]; exact sk) (by rw [K9]; exact fk) (c3.1 3 (by decide)).1
               have a4 := a3.trans c3
               exact ⟨rfl, ⟨hvL.st a4 (by decide), hvM.st a4 (by decide), key, hvC.st a4 (by decide), hvD.st a4 (by decide), hvO.st a4 (by decide), hvI.st a4 (by decide), a2.st c3 (by decide)⟩, chA.trans hc0.2 a4.2⟩)
          · refine g_aload_n hC dX10_alter_67 rfl ?_
            refine g_getR hC fdX10_35 (by assumption) (by assumption) dX10_alter_68 ?_
            refine g_iload_n hC dX10_alter_71 rfl ?_
            refine g_iload_n hC dX10_alter_72 rfl ?_
            refine g_iast hC (by assumption) (by omega) (by omega) (by decide) dX10_alter_73 ?_
            refine g_iload hC dX10_alter_74 rfl ?_
            refine g_iret hC hI rfl dX10_alter_76 (Nat.le_of_ble_eq_true rfl) (Nat.le_of_ble_eq_true rfl) ⟨rfl, rfl, _, rfl, ?_⟩
            first
            | (rw [altS_no (by omega)]
               exact ⟨rfl, ⟨hvL.st a3 (by decide), hvM.st a3 (by decide), hvS.st a3 (by decide), hvC.st a3 (by decide), hvD.st a3 (by decide), hvO.st a3 (by decide), hvI.st a3 (by decide), a2⟩, chA.trans hc0.2 a3.2⟩)
            | (rw [altS_yes ex0 ⟨by omega, by omega⟩, e9]
               have c3 : chF m B mem56 (gup mem56 (B 12) (K : Int).toNat q) [12] := chF.row hBe hmB
               have hS5 := hvS.st a3 (by decide)
               obtain ⟨K', eK', -, -, -, -, ⟨h1, h2, h3, h4, h5, h6⟩, -⟩ := setAt_view2 hS5 kS ex0
               obtain rfl : K = K' := by omega
               have sk : sB1 B (gup mem56 (B 12) (K : Int).toNat q) K (q, x.2) := ⟨by rw [(c3.1 17 (by decide)).2]; exact h1, gup_s _ _ _ _, by rw [(c3.1 16 (by decide)).2]; exact h3, by rw [(c3.1 13 (by decide)).2]; exact h4, by rw [(c3.1 14 (by decide)).2]; exact h5, by rw [(c3.1 15 (by decide)).2]; exact h6⟩
               have fk : frS B mem56 (gup mem56 (B 12) (K : Int).toNat q) K := by
                 refine ⟨fun j hj => ?_, fun j hj => ?_⟩
                 · simp [gup, hBe, hj]
                 · simp [gup, hBe]
               have key := vS_set (k := K - 1) hS5 kS K4 (by rw [K9]; exact sk) (by rw [K9]; exact fk) (c3.1 3 (by decide)).1
               have a4 := a3.trans c3
               exact ⟨rfl, ⟨hvL.st a4 (by decide), hvM.st a4 (by decide), key, hvC.st a4 (by decide), hvD.st a4 (by decide), hvO.st a4 (by decide), hvI.st a4 (by decide), a2.st c3 (by decide)⟩, chA.trans hc0.2 a4.2⟩)
    · refine g_bipush hC dX10_alter_23 (by decide +kernel) ?_
      refine g_iret hC hI rfl dX10_alter_25 (Nat.le_of_ble_eq_true rfl) (Nat.le_of_ble_eq_true rfl) ⟨rfl, rfl, _, rfl, ?_⟩
      have e8 : altC ss K q = -4 := by rw [ec, if_pos (by omega)]
      rw [altS_no (fun w => by omega), e8, show stG g (-4) = g from rfl, show stZ y z (-4) = z from if_neg (by omega)]
      exact ⟨rfl, ⟨hV9, hc0.2⟩⟩
  · refine g_bipush hC dX10_alter_13 (by decide +kernel) ?_
    refine g_iret hC hI rfl dX10_alter_15 (Nat.le_of_ble_eq_true rfl) (Nat.le_of_ble_eq_true rfl) ⟨rfl, rfl, _, rfl, ?_⟩
    have e9 : setAt ss n = none := (by rcases hx7 with ⟨w, -⟩ | ⟨-, w⟩; omega; exact w)
    rw [altS_none e9]
    have e8 : altC ss n q = -2 := by rw [altC, e9]
    rw [e8, show stG g (-2) = g from rfl, show stZ y z (-2) = z from if_neg (by omega)]
    exact ⟨rfl, ⟨hV9, hc0.2⟩⟩
set_option maxHeartbeats 4000000 in
set_option maxRecDepth 100000 in
theorem kX10_verify (lc : Launch) (D : va_G) (ac : Nat → ClassId) {sh : Nat → Nat × Nat} {rf : Nat → Nat → Option Nat} {mem : Nat → Nat → Int} (m : Nat) (B : Nat → Nat) (rp ex ar : List Int) (ms : List (Option MemT)) (ss : List (Option SetT)) (ch : Lns) (ds : Dfs) (lk : Nat) (g y z : Int) (n : Int) (hM : MO sh rf m B) (hV : MV m B mem rp ms ss ch ds lk ex ar g y z) (kS : okS ss) (kT : 0 ≤ g ∧ g ≤ 12 ∧ (y = 0 ∨ y = 1)) (h_n : inR n) : gMet lc D ac mX10_verify 3 [.ref m, .int (iI n)] 0 0 sh rf mem (pM sh rf (fun r mem1 => r = verC ss n ∧ MV m B mem1 rp ms (verS ss n y) ch ds lk ex ar (stG g (verC ss n)) y (stZ y z (verC ss n)) ∧ chA m B mem mem1)) := by
  refine gMet.mk (by decide) (by intro v hv; simp at hv; (try rcases hv with rfl | rfl) <;> rfl) (Nat.le_of_ble_eq_true rfl) (fun X hC hI => ?_)
  show gG X sh rf mem 0 0 0 [some (.ref m), some (.int (iI n)), none] []
  have hM9 := hM
  obtain ⟨mo, R4, S4, R5, S5, R6, S6, R7, S7, R8, S8, R9, S9, R10, S10, R11, S11, R12, S12, R13, S13, R14, S14, R15, S15, R16, S16, R17, S17, R19, S19, R20, S20, R21, S21, R22, S22, R25, S25, R26, S26, R27, S27, R30, S30, R31, S31, hBe, hBm, hmB⟩ := hM
  have i_n := h_n
  obtain ⟨n1, n2⟩ := h_n
  obtain ⟨mem0, e0⟩ : ∃ q, q = gup mem m 0 0 := ⟨_, rfl⟩
  obtain ⟨hV0, hc0⟩ := MV.code (v := 0) hmB hV
  rw [← e0] at hV0 hc0
  have hV9 := hV0
  obtain ⟨hvL, hvM, hvS, hvC, hvD, hvO, hvI, hvT⟩ := hV0
  refine g_aload_n hC dX10_verify_0 rfl ?_
  refine g_iconst hC dX10_verify_1 ?_
  refine g_putI hC fdX10_84 (by assumption) rfl rfl dX10_verify_2 ?_
  rw [← e0]
  refine g_aload_n hC dX10_verify_5 rfl ?_
  refine g_iload_n hC dX10_verify_6 rfl ?_
  refine g_VP hC (kX10_isSet (gl X) (gD X) (gac X) m B ss n hM9 hvS kS i_n) cvX10_isSet lkX10_154 (by assumption) rfl rfl (Nat.le_of_ble_eq_true rfl) (hI.fit (Nat.le_of_ble_eq_true rfl) (Nat.le_of_ble_eq_true rfl) (Nat.le_of_ble_eq_true rfl)) dX10_verify_7 (fun x7 hx7 => ?_)
  refine g_if_ne (tgt := 16) hC dX10_verify_10 (by decide) ⟨by omega, by omega⟩ (fun h10 => ?_) (fun h10 => ?_)
  · have qs : setAt ss n ≠ none := by
      rcases hx7 with ⟨-, w⟩ | ⟨w, -⟩
      · exact w
      · omega
    obtain ⟨x, ex0⟩ := Option.ne_none_iff_exists'.mp qs
    obtain ⟨K, eK, K1, K2, K3, K4, hSK, k1, k2, k3, k4, k5⟩ := setAt_view2 hvS kS ex0
    subst eK
    have ec := verC_eq ex0
    have l4 : mem0 (B 13) (K : Int).toNat = x.2.2.1.length := hSK.2.2.2.1
    have l5 : mem0 (B 14) (K : Int).toNat = x.2.2.2 := hSK.2.2.2.2.1
    have e9 : ((K : Int) - 1).toNat = K - 1 := by omega
    have K9 : K - 1 + 1 = K := by omega
    refine g_aload_n hC dX10_verify_16 rfl ?_
    refine g_getR hC fdX10_41 (by assumption) (by assumption) dX10_verify_17 ?_
    refine g_iload_n hC dX10_verify_20 rfl ?_
    refine g_iald hC (by assumption) (by omega) (by omega) (by decide) dX10_verify_21 ?_
    refine g_aload_n hC dX10_verify_22 rfl ?_
    refine g_getR hC fdX10_38 (by assumption) (by assumption) dX10_verify_23 ?_
    refine g_iload_n hC dX10_verify_26 rfl ?_
    refine g_iald hC (by assumption) (by omega) (by omega) (by decide) dX10_verify_27 ?_
    refine g_icmp_ne (tgt := 35) hC dX10_verify_28 (by decide) ⟨by omega, by omega⟩ ⟨by omega, by omega⟩ (fun h28 => ?_) (fun h28 => ?_)
    · refine g_iconst hC dX10_verify_35 ?_
      refine g_topI (a := verC ss K) (by first | (exfalso; omega) | (rw [ec, if_pos (by omega)]; done) | (rw [ec, if_neg (by omega)]; done)) ?_
      have cr : 0 ≤ verC ss K ∧ verC ss K ≤ 12 := by rw [ec]; split <;> omega
      refine g_istore_n hC 2 rfl dX10_verify_36 (Nat.le_of_ble_eq_true rfl) ?_
      dsimp only [List.set]
      refine g_aload_n hC dX10_verify_37 rfl ?_
      refine g_iload_n hC dX10_verify_38 rfl ?_
      refine g_VM hC (kX10_acts (gl X) (gD X) (gac X) m B g y z _ hM9 hvT kT cr) cvX10_acts lkX10_151 (by assumption) rfl rfl (Nat.le_of_ble_eq_true rfl) (hI.fit (Nat.le_of_ble_eq_true rfl) (Nat.le_of_ble_eq_true rfl) (Nat.le_of_ble_eq_true rfl)) dX10_verify_39 (fun x39 mem39 hx39 => ?_)
      obtain ⟨a1, a2, a3⟩ := hx39
      refine g_if_eq (tgt := 57) hC dX10_verify_42 (by decide) ⟨by omega, by omega⟩ (fun h42 => ?_) (fun h42 => ?_)
      · refine g_iload_n hC dX10_verify_57 rfl ?_
        refine g_iret hC hI rfl dX10_verify_58 (Nat.le_of_ble_eq_true rfl) (Nat.le_of_ble_eq_true rfl) ⟨rfl, rfl, _, rfl, ?_⟩
        first
        | (rw [verS_no (by omega)]
           exact ⟨rfl, ⟨hvL.st a3 (by decide), hvM.st a3 (by decide), hvS.st a3 (by decide), hvC.st a3 (by decide), hvD.st a3 (by decide), hvO.st a3 (by decide), hvI.st a3 (by decide), a2⟩, chA.trans hc0.2 a3.2⟩)
        | (rw [verS_yes ex0 (by omega), e9]
           have c3 : chF m B mem39 (gup mem39 (B 14) (K : Int).toNat x.2.2.1.length) [14] := chF.row hBe hmB
           have hS5 := hvS.st a3 (by decide)
           obtain ⟨K', eK', -, -, -, -, ⟨h1, h2, h3, h4, h5, h6⟩, -⟩ := setAt_view2 hS5 kS ex0
           obtain rfl : K = K' := by omega
           have sk : sB1 B (gup mem39 (B 14) (K : Int).toNat x.2.2.1.length) K (x.1, x.2.1, x.2.2.1, x.2.2.1.length) := ⟨by rw [(c3.1 17 (by decide)).2]; exact h1, by rw [(c3.1 12 (by decide)).2]; exact h2, by rw [(c3.1 16 (by decide)).2]; exact h3, by rw [(c3.1 13 (by decide)).2]; exact h4, gup_s _ _ _ _, by rw [(c3.1 15 (by decide)).2]; exact h6⟩
           have fk : frS B mem39 (gup mem39 (B 14) (K : Int).toNat x.2.2.1.length) K := by
             refine ⟨fun j hj => ?_, fun j hj => ?_⟩
             · simp [gup, hBe, hj]
             · simp [gup, hBe]
           have key := vS_set (k := K - 1) hS5 kS K4 (by rw [K9]; exact sk) (by rw [K9]; exact fk) (c3.1 3 (by decide)).1
           have a4 := a3.trans c3
           exact ⟨rfl, ⟨hvL.st a4 (by decide), hvM.st a4 (by decide), key, hvC.st a4 (by decide), hvD.st a4 (by decide), hvO.st a4 (by decide), hvI.st a4 (by decide), a2.st c3 (by decide)⟩, chA.trans hc0.2 a4.2⟩)
      · refine g_aload_n hC dX10_verify_45 rfl ?_
        refine g_getR hC fdX10_41 (by assumption) (by assumption) dX10_verify_46 ?_
        refine g_iload_n hC dX10_verify_49 rfl ?_
        refine g_aload_n hC dX10_verify_50 rfl ?_
        refine g_getR hC fdX10_38 (by assumption) (by assumption) dX10_verify_51 ?_
        refine g_iload_n hC dX10_verify_54 rfl ?_
        refine g_iald hC (by assumption) (by omega) (by omega) (by decide) dX10_verify_55 ?_
        have l6 : mem39 (B 13) (K : Int).toNat = x.2.2.1.length := by rw [(a3.1 13 (by decide)).2]; exact l4
        rw [l6]
        refine g_iast hC (by assumption) (by omega) (by omega) (by decide) dX10_verify_56 ?_
        refine g_iload_n hC dX10_verify_57 rfl ?_
        refine g_iret hC hI rfl dX10_verify_58 (Nat.le_of_ble_eq_true rfl) (Nat.le_of_ble_eq_true rfl) ⟨rfl, rfl, _, rfl, ?_⟩
        first
        | (rw [verS_no (by omega)]
           exact ⟨rfl, ⟨hvL.st a3 (by decide), hvM.st a3 (by decide), hvS.st a3 (by decide), hvC.st a3 (by decide), hvD.st a3 (by decide), hvO.st a3 (by decide), hvI.st a3 (by decide), a2⟩, chA.trans hc0.2 a3.2⟩)
        | (rw [verS_yes ex0 (by omega), e9]
           have c3 : chF m B mem39 (gup mem39 (B 14) (K : Int).toNat x.2.2.1.length) [14] := chF.row hBe hmB
           have hS5 := hvS.st a3 (by decide)
           obtain ⟨K', eK', -, -, -, -, ⟨h1, h2, h3, h4, h5, h6⟩, -⟩ := setAt_view2 hS5 kS ex0
           obtain rfl : K = K' := by omega
           have sk : sB1 B (gup mem39 (B 14) (K : Int).toNat x.2.2.1.length) K (x.1, x.2.1, x.2.2.1, x.2.2.1.length) := ⟨by rw [(c3.1 17 (by decide)).2]; exact h1, by rw [(c3.1 12 (by decide)).2]; exact h2, by rw [(c3.1 16 (by decide)).2]; exact h3, by rw [(c3.1 13 (by decide)).2]; exact h4, gup_s _ _ _ _, by rw [(c3.1 15 (by decide)).2]; exact h6⟩
           have fk : frS B mem39 (gup mem39 (B 14) (K : Int).toNat x.2.2.1.length) K := by
             refine ⟨fun j hj => ?_, fun j hj => ?_⟩
             · simp [gup, hBe, hj]
             · simp [gup, hBe]
           have key := vS_set (k := K - 1) hS5 kS K4 (by rw [K9]; exact sk) (by rw [K9]; exact fk) (c3.1 3 (by decide)).1
           have a4 := a3.trans c3
           exact ⟨rfl, ⟨hvL.st a4 (by decide), hvM.st a4 (by decide), key, hvC.st a4 (by decide), hvD.st a4 (by decide), hvO.st a4 (by decide), hvI.st a4 (by decide), a2.st c3 (by decide)⟩, chA.trans hc0.2 a4.2⟩)
    · refine g_iconst hC dX10_verify_31 ?_
      refine g_goto (tgt := 36) hC dX10_verify_32 (by decide) ?_
      refine g_topI (a := verC ss K) (by first | (exfalso; omega) | (rw [ec, if_pos (by omega)]; done) | (rw [ec, if_neg (by omega)]; done)) ?_
      have cr : 0 ≤ verC ss K ∧ verC ss K ≤ 12 := by rw [ec]; split <;> omega
      refine g_istore_n hC 2 rfl dX10_verify_36 (Nat.le_of_ble_eq_true rfl) ?_
      dsimp only [List.set]
      refine g_aload_n hC dX10_verify_37 rfl ?_
      refine g_iload_n hC dX10_verify_38 rfl ?_
      refine g_VM hC (kX10_acts (gl X) (gD X) (gac X) m B g y z _ hM9 hvT kT cr) cvX10_acts lkX10_151 (by assumption) rfl rfl (Nat.le_of_ble_eq_true rfl) (hI.fit (Nat.le_of_ble_eq_true rfl) (Nat.le_of_ble_eq_true rfl) (Nat.le_of_ble_eq_true rfl)) dX10_verify_39 (fun x39 mem39 hx39 => ?_)
      obtain ⟨a1, a2, a3⟩ := hx39
      refine g_if_eq (tgt := 57) hC dX10_verify_42 (by decide) ⟨by omega, by omega⟩ (fun h42 => ?_) (fun h42 => ?_)
      · refine g_iload_n hC dX10_verify_57 rfl ?_
        refine g_iret hC hI rfl dX10_verify_58 (Nat.le_of_ble_eq_true rfl) (Nat.le_of_ble_eq_true rfl) ⟨rfl, rfl, _, rfl, ?_⟩
        first
        | (rw [verS_no (by omega)]
           exact ⟨rfl, ⟨hvL.st a3 (by decide), hvM.st a3 (by decide), hvS.st a3 (by decide), hvC.st a3 (by decide), hvD.st a3 (by decide), hvO.st a3 (by decide), hvI.st a3 (by decide), a2⟩, chA.trans hc0.2 a3.2⟩)
        | (rw [verS_yes ex0 (by omega), e9]
           have c3 : chF m B mem39 (gup mem39 (B 14) (K : Int).toNat x.2.2.1.length) [14] := chF.row hBe hmB
           have hS5 := hvS.st a3 (by decide)
           obtain ⟨K', eK', -, -, -, -, ⟨h1, h2, h3, h4, h5, h6⟩, -⟩ := setAt_view2 hS5 kS ex0
           obtain rfl : K = K' := by omega
           have sk : sB1 B (gup mem39 (B 14) (K : Int).toNat x.2.2.1.length) K (x.1, x.2.1, x.2.2.1, x.2.2.1.length) := ⟨by rw [(c3.1 17 (by decide)).2]; exact h1, by rw [(c3.1 12 (by decide)).2]; exact h2, by rw [(c3.1 16 (by decide)).2]; exact h3, by rw [(c3.1 13 (by decide)).2]; exact h4, gup_s _ _ _ _, by rw [(c3.1 15 (by decide)).2]; exact h6⟩
           have fk : frS B mem39 (gup mem39 (B 14) (K : Int).toNat x.2.2.1.length) K := by
             refine ⟨fun j hj => ?_, fun j hj => ?_⟩
             · simp [gup, hBe, hj]
             · simp [gup, hBe]
           have key := vS_set (k := K - 1) hS5 kS K4 (by rw [K9]; exact sk) (by rw [K9]; exact fk) (c3.1 3 (by decide)).1
           have a4 := a3.trans c3
           exact ⟨rfl, ⟨hvL.st a4 (by decide), hvM.st a4 (by decide), key, hvC.st a4 (by decide), hvD.st a4 (by decide), hvO.st a4 (by decide), hvI.st a4 (by decide), a2.st c3 (by decide)⟩, chA.trans hc0.2 a4.2⟩)
      · refine g_aload_n hC dX10_verify_45 rfl ?_
        refine g_getR hC fdX10_41 (by assumption) (by assumption) dX10_verify_46 ?_
        refine g_iload_n hC dX10_verify_49 rfl ?_
        refine g_aload_n hC dX10_verify_50 rfl ?_
        refine g_getR hC fdX10_38 (by assumption) (by assumption) dX10_verify_51 ?_
        refine g_iload_n hC dX10_verify_54 rfl ?_
        refine g_iald hC (by assumption) (by omega) (by omega) (by decide) dX10_verify_55 ?_
        have l6 : mem39 (B 13) (K : Int).toNat = x.2.2.1.length := by rw [(a3.1 13 (by decide)).2]; exact l4
        rw [l6]
        refine g_iast hC (by assumption) (by omega) (by omega) (by decide) dX10_verify_56 ?_
        refine g_iload_n hC dX10_verify_57 rfl ?_
        refine g_iret hC hI rfl dX10_verify_58 (Nat.le_of_ble_eq_true rfl) (Nat.le_of_ble_eq_true rfl) ⟨rfl, rfl, _, rfl, ?_⟩
        first
        | (rw [verS_no (by omega)]
           exact ⟨rfl, ⟨hvL.st a3 (by decide), hvM.st a3 (by decide), hvS.st a3 (by decide), hvC.st a3 (by decide), hvD.st a3 (by decide), hvO.st a3 (by decide), hvI.st a3 (by decide), a2⟩, chA.trans hc0.2 a3.2⟩)
        | (rw [verS_yes ex0 (by omega), e9]
           have c3 : chF m B mem39 (gup mem39 (B 14) (K : Int).toNat x.2.2.1.length) [14] := chF.row hBe hmB
           have hS5 := hvS.st a3 (by decide)
           obtain ⟨K', eK', -, -, -, -, ⟨h1, h2, h3, h4, h5, h6⟩, -⟩ := setAt_view2 hS5 kS ex0
           obtain rfl : K = K' := by omega
           have sk : sB1 B (gup mem39 (B 14) (K : Int).toNat x.2.2.1.length) K (x.1, x.2.1, x.2.2.1, x.2.2.1.length) := ⟨by rw [(c3.1 17 (by decide)).2]; exact h1, by rw [(c3.1 12 (by decide)).2]; exact h2, by rw [(c3.1 16 (by decide)).2]; exact h3, by rw [(c3.1 13 (by decide)).2]; exact h4, gup_s _ _ _ _, by rw [(c3.1 15 (by decide)).2]; exact h6⟩
           have fk : frS B mem39 (gup mem39 (B 14) (K : Int).toNat x.2.2.1.length) K := by
             refine ⟨fun j hj => ?_, fun j hj => ?_⟩
             · simp [gup, hBe, hj]
             · simp [gup, hBe]
           have key := vS_set (k := K - 1) hS5 kS K4 (by rw [K9]; exact sk) (by rw [K9]; exact fk) (c3.1 3 (by decide)).1
           have a4 := a3.trans c3
           exact ⟨rfl, ⟨hvL.st a4 (by decide), hvM.st a4 (by decide), key, hvC.st a4 (by decide), hvD.st a4 (by decide), hvO.st a4 (by decide), hvI.st a4 (by decide), a2.st c3 (by decide)⟩, chA.trans hc0.2 a4.2⟩)
  · refine g_bipush hC dX10_verify_13 (by decide +kernel) ?_
    refine g_iret hC hI rfl dX10_verify_15 (Nat.le_of_ble_eq_true rfl) (Nat.le_of_ble_eq_true rfl) ⟨rfl, rfl, _, rfl, ?_⟩
    have e9 : setAt ss n = none := (by rcases hx7 with ⟨w, -⟩ | ⟨-, w⟩; omega; exact w)
    rw [verS_none e9]
    have e8 : verC ss n = -2 := by rw [verC, e9]
    rw [e8, show stG g (-2) = g from rfl, show stZ y z (-2) = z from if_neg (by omega)]
    exact ⟨rfl, ⟨hV9, hc0.2⟩⟩
set_option maxHeartbeats 4000000 in
set_option maxRecDepth 100000 in
theorem kX10_generate (lc : Launch) (D : va_G) (ac : Nat → ClassId) {sh : Nat → Nat × Nat} {rf : Nat → Nat → Option Nat} {mem : Nat → Nat → Int} (m : Nat) (B : Nat → Nat) (rp ex ar : List Int) (ms : List (Option MemT)) (ss : List (Option SetT)) (ch : Lns) (ds : Dfs) (lk : Nat) (g y z : Int) (n c v s : Int) (hM : MO sh rf m B) (hV : MV m B mem rp ms ss ch ds lk ex ar g y z) (kS : okS ss) (kT : 0 ≤ g ∧ g ≤ 12 ∧ (y = 0 ∨ y = 1)) (h_n : inR n) (h_c : inR c) : gMet lc D ac mX10_generate 3 [.ref m, .int (iI n), .int (iI c), .int (iI v), .int (iI s)] 0 0 sh rf mem (pM sh rf (fun r mem1 => r = genC ss n c ∧ MV m B mem1 rp ms (genS ss n c v s y) ch ds lk ex ar (stG g (genC ss n c)) y (stZ y z (genC ss n c)) ∧ chA m B mem mem1)) := by
  refine gMet.mk (by decide) (by intro v hv; simp at hv; (try rcases hv with rfl | rfl | rfl | rfl | rfl) <;> rfl) (Nat.le_of_ble_eq_true rfl) (fun X hC hI => ?_)
  show gG X sh rf mem 0 0 0 [some (.ref m), some (.int (iI n)), some (.int (iI c)), some (.int (iI v)), some (.int (iI s)), none, none, none] []
  have hM9 := hM
  obtain ⟨mo, R4, S4, R5, S5, R6, S6, R7, S7, R8, S8, R9, S9, R10, S10, R11, S11, R12, S12, R13, S13, R14, S14, R15, S15, R16, S16, R17, S17, R19, S19, R20, S20, R21, S21, R22, S22, R25, S25, R26, S26, R27, S27, R30, S30, R31, S31, hBe, hBm, hmB⟩ := hM
  have i_n := h_n
  obtain ⟨n1, n2⟩ := h_n
  have i_c := h_c
  obtain ⟨c1, c2⟩ := h_c
  obtain ⟨mem0, e0⟩ : ∃ q, q = gup mem m 0 0 := ⟨_, rfl⟩
  obtain ⟨hV0, hc0⟩ := MV.code (v := 0) hmB hV
  rw [← e0] at hV0 hc0
  have hV9 := hV0
  obtain ⟨hvL, hvM, hvS, hvC, hvD, hvO, hvI, hvT⟩ := hV0
  have J74 : ∀ (K : Nat) (x : SetT) (m0 : Nat → Nat → Int), setAt ss K = some x → 1 ≤ K ∧ K ≤ 20 → ss.getD (K - 1) none = some x → (0 ≤ x.1 ∧ x.1 < 100 ∧ (x.2.1 = 0 ∨ x.2.1 = 1) ∧ x.2.2.1.length ≤ 60 ∧ x.2.2.2 ≤ x.2.2.1.length) → y = 0 → genC ss K c = 0 → 1 ≤ c → x.2.2.2 + c ≤ 60 → chF m B mem0 m0 [33, 34] → vS m B m0 ss → vT m m0 (stG g (genC ss K c)) y (stZ y z (genC ss K c)) → n = K → ∀ (t k : Nat) (m1 : Nat → Nat → Int), k ≤ c.toNat → c.toNat < k + t → chF m B m0 m1 [13, 14, 15] → frS B m0 m1 K → (∃ st : SetT, sB1 B m1 K st ∧ st.1 = x.1 ∧ st.2.1 = x.2.1 ∧ st.2.2.2 = x.2.2.2 + k ∧ st.2.2.1.take st.2.2.2 = x.2.2.1.take x.2.2.2 ++ ser v s k ∧ st.2.2.2 ≤ st.2.2.1.length ∧ (1 ≤ k → st.2.2.1.length = st.2.2.2)) → gG X sh rf m1 0 0 74 [some (.ref m), some (.int (iI K)), some (.int (iI c)), some (.int (iI v)), some (.int (iI s)), some (.int (iI (genC ss K c))), some (.int (iI (sv v s k))), some (.int (iI k))] [] := by
    intro K x m0 ex0 hK K4 hx y0 c00 g1 g2 a3 hS5 a2 en t
    obtain ⟨k1, k2, k3, k4, k5⟩ := hx
    induction t with
    | zero => intro k m1 c1 c2; omega
    | succ t ih =>
      intro k m1 c1 c2 c3 c4 c5
      obtain ⟨st, t1, t2, t3, t4, t5, t6, t7⟩ := c5
      refine g_iload hC dX10_generate_74 rfl ?_
      refine g_iload_n hC dX10_generate_76 rfl ?_
      refine g_icmp_ge (tgt := 100) hC dX10_generate_77 (by decide) ⟨by omega, by omega⟩ ⟨by omega, by omega⟩ (fun h77 => ?_) (fun h77 => ?_)
      · refine g_iload hC dX10_generate_100 rfl ?_
        refine g_iret hC hI rfl dX10_generate_102 (Nat.le_of_ble_eq_true rfl) (Nat.le_of_ble_eq_true rfl) ⟨rfl, rfl, _, rfl, ?_⟩
        obtain rfl : k = c.toNat := by omega
        have t8 := t7 (by omega)
        have e8 : st = (x.1, x.2.1, x.2.2.1.take x.2.2.2 ++ ser v s c.toNat, x.2.2.2 + c.toNat) := by
          rw [← t2, ← t3, ← t5, ← t4, take_all t8]
        rw [e8] at t1
        subst en
        rw [genS_yes ex0 ⟨y0, c00⟩, show ((K : Int) - 1).toNat = K - 1 by omega]
        have K9 : K - 1 + 1 = K := by omega
        have key := vS_set (k := K - 1) hS5 kS K4 (by rw [K9]; exact t1) (by rw [K9]; exact c4) (c3.1 3 (by decide)).1
        have a4 := a3.trans c3
        exact ⟨rfl, ⟨hvL.st a4 (by decide), hvM.st a4 (by decide), key, hvC.st a4 (by decide), hvD.st a4 (by decide), hvO.st a4 (by decide), hvI.st a4 (by decide), a2.st c3 (by decide)⟩, chA.trans hc0.2 a4.2⟩
      · refine g_aload_n hC dX10_generate_80 rfl ?_
        refine g_iload_n hC dX10_generate_81 rfl ?_
        refine g_iload hC dX10_generate_82 rfl ?_
        refine g_VV hC (kX10_append (gl X) (gD X) (gac X) m B K st (sv v s k) hM9 t1 ⟨by omega, by omega⟩ (by omega) t6) cvX10_append lkX10_161 (by assumption) rfl rfl (Nat.le_of_ble_eq_true rfl) (hI.fit (Nat.le_of_ble_eq_true rfl) (Nat.le_of_ble_eq_true rfl) (Nat.le_of_ble_eq_true rfl)) dX10_generate_84 (fun mem84 hx84 => ?_)
        obtain ⟨b1, b2, b3⟩ := hx84
        refine g_iload hC dX10_generate_87 rfl ?_
        refine g_iload hC dX10_generate_89 rfl ?_
        refine g_iadd hC dX10_generate_91 ?_
        refine g_istore hC dX10_generate_92 (Nat.le_of_ble_eq_true rfl) ?_
        dsimp only [List.set]
        refine g_iinc hC dX10_generate_94 rfl ?_
        dsimp only [List.set]
        refine g_goto (tgt := 74) hC dX10_generate_97 (by decide) ?_
        first
        | (exact J74 K x mem54 ex0 ⟨K1, K2⟩ K4 ⟨k1, k2, k3, k4, k5⟩ y0 c00 g1 g2 a3 (hvS.st a3 (by decide)) a2 rfl (c.toNat + 1) 0 mem54 (Nat.zero_le _) (by omega) chF.rf0 frS.rf0 ⟨x, by
             obtain ⟨K', eK', -, -, -, -, w, -⟩ := setAt_view2 (hvS.st a3 (by decide)) kS ex0
             obtain rfl : K = K' := by omega
             exact w, rfl, rfl, rfl, by simp [ser], k5, fun w => absurd w (by decide)⟩)
        | (refine ih (k + 1) mem84 (by omega) (by omega) ((c3.trans b3).mono (by decide)) (c4.trans b2) ⟨_, b1, t2, t3, by show st.2.2.2 + 1 = x.2.2.2 + (k + 1); omega, ?_, ?_, fun _ => ?_⟩
           · show (st.2.2.1.take st.2.2.2 ++ [sv v s k]).take (st.2.2.2 + 1) = _
             rw [take_all (by rw [List.length_append, List.length_take]; simp; omega), t5, ser, List.append_assoc]
           · show st.2.2.2 + 1 ≤ (st.2.2.1.take st.2.2.2 ++ [sv v s k]).length
             rw [List.length_append, List.length_take]; simp; omega
           · show (st.2.2.1.take st.2.2.2 ++ [sv v s k]).length = st.2.2.2 + 1
             rw [List.length_append, List.length_take]; simp; omega)
  refine g_aload_n hC dX10_generate_0 rfl ?_
  refine g_iconst hC dX10_generate_1 ?_
  refine g_putI hC fdX10_84 (by assumption) rfl rfl dX10_generate_2 ?_
  rw [← e0]
  refine g_aload_n hC dX10_generate_5 rfl ?_
  refine g_iload_n hC dX10_generate_6 rfl ?_
  refine g_VP hC (kX10_isSet (gl X) (gD X) (gac X) m B ss n hM9 hvS kS i_n) cvX10_isSet lkX10_154 (by assumption) rfl rfl (Nat.le_of_ble_eq_true rfl) (hI.fit (Nat.le_of_ble_eq_true rfl) (Nat.le_of_ble_eq_true rfl) (Nat.le_of_ble_eq_true rfl)) dX10_generate_7 (fun x7 hx7 => ?_)
  refine g_if_ne (tgt := 16) hC dX10_generate_10 (by decide) ⟨by omega, by omega⟩ (fun h10 => ?_) (fun h10 => ?_)
  · have qs : setAt ss n ≠ none := by
      rcases hx7 with ⟨-, w⟩ | ⟨w, -⟩
      · exact w
      · omega
    obtain ⟨x, ex0⟩ := Option.ne_none_iff_exists'.mp qs
    obtain ⟨K, eK, K1, K2, K3, K4, hSK, k1, k2, k3, k4, k5⟩ := setAt_view2 hvS kS ex0
    subst eK
    have ec := genC_eq (c := c) ex0
    have l5 : mem0 (B 14) (K : Int).toNat = x.2.2.2 := hSK.2.2.2.2.1
    have e9 : ((K : Int) - 1).toNat = K - 1 := by omega
    have K9 : K - 1 + 1 = K := by omega
    refine g_iload_n hC dX10_generate_16 rfl ?_
    refine g_iconst hC dX10_generate_17 ?_
    refine g_icmp_lt (tgt := 27) hC dX10_generate_18 (by decide) ⟨by omega, by omega⟩ ⟨by omega, by omega⟩ (fun h18 => ?_) (fun h18 => ?_)
    · refine g_bipush hC dX10_generate_27 (by decide +kernel) ?_
      refine g_iret hC hI rfl dX10_generate_29 (Nat.le_of_ble_eq_true rfl) (Nat.le_of_ble_eq_true rfl) ⟨rfl, rfl, _, rfl, ?_⟩
      have e8 : genC ss K c = -4 := by rw [ec, if_pos (by omega)]
      rw [genS_no (fun w => by omega), e8, show stG g (-4) = g from rfl, show stZ y z (-4) = z from if_neg (by omega)]
      exact ⟨rfl, ⟨hV9, hc0.2⟩⟩
    · refine g_iload_n hC dX10_generate_21 rfl ?_
      refine g_bipush hC dX10_generate_22 (by decide +kernel) ?_
      refine g_icmp_le (tgt := 30) hC dX10_generate_24 (by decide) ⟨by omega, by omega⟩ ⟨by omega, by omega⟩ (fun h24 => ?_) (fun h24 => ?_)
      · refine g_aload_n hC dX10_generate_30 rfl ?_
        refine g_getR hC fdX10_41 (by assumption) (by assumption) dX10_generate_31 ?_
        refine g_iload_n hC dX10_generate_34 rfl ?_
        refine g_iald hC (by assumption) (by omega) (by omega) (by decide) dX10_generate_35 ?_
        refine g_iload_n hC dX10_generate_36 rfl ?_
        refine g_iadd hC dX10_generate_37 ?_
        refine g_bipush hC dX10_generate_38 (by decide +kernel) ?_
        refine g_icmp_le (tgt := 48) hC dX10_generate_40 (by decide) ⟨by omega, by omega⟩ ⟨by omega, by omega⟩ (fun h40 => ?_) (fun h40 => ?_)
        · refine g_iconst hC dX10_generate_48 ?_
          refine g_topI (a := genC ss K c) (by first | (exfalso; omega) | (rw [ec, if_neg (by omega), if_neg (by omega)]; done) | (rw [ec, if_neg (by omega), if_pos (by omega)]; done)) ?_
          have cr : 0 ≤ genC ss K c ∧ genC ss K c ≤ 12 := by
            rw [ec, if_neg (by omega)]
            split <;> omega
          refine g_istore hC dX10_generate_49 (Nat.le_of_ble_eq_true rfl) ?_
          dsimp only [List.set]
          refine g_aload_n hC dX10_generate_51 rfl ?_
          refine g_iload hC dX10_generate_52 rfl ?_
          refine g_VM hC (kX10_acts (gl X) (gD X) (gac X) m B g y z _ hM9 hvT kT cr) cvX10_acts lkX10_151 (by assumption) rfl rfl (Nat.le_of_ble_eq_true rfl) (hI.fit (Nat.le_of_ble_eq_true rfl) (Nat.le_of_ble_eq_true rfl) (Nat.le_of_ble_eq_true rfl)) dX10_generate_54 (fun x54 mem54 hx54 => ?_)
          obtain ⟨a1, a2, a3⟩ := hx54
          refine g_if_eq (tgt := 65) hC dX10_generate_57 (by decide) ⟨by omega, by omega⟩ (fun h57 => ?_) (fun h57 => ?_)
          · refine g_iload hC dX10_generate_65 rfl ?_
            refine g_iret hC hI rfl dX10_generate_67 (Nat.le_of_ble_eq_true rfl) (Nat.le_of_ble_eq_true rfl) ⟨rfl, rfl, _, rfl, ?_⟩
            rw [genS_no (by omega)]
            exact ⟨rfl, ⟨hvL.st a3 (by decide), hvM.st a3 (by decide), hvS.st a3 (by decide), hvC.st a3 (by decide), hvD.st a3 (by decide), hvO.st a3 (by decide), hvI.st a3 (by decide), a2⟩, chA.trans hc0.2 a3.2⟩
          · refine g_iload hC dX10_generate_60 rfl ?_
            refine g_if_le (tgt := 68) hC dX10_generate_62 (by decide) ⟨by omega, by omega⟩ (fun h62 => ?_) (fun h62 => ?_)
            · have y0 : y = 0 := by omega
              have c00 : genC ss K c = 0 := by omega
              obtain ⟨-, g1, g2⟩ := genC_ok ex0 (Or.inl c00)
              refine g_iload_n hC dX10_generate_68 rfl ?_
              refine g_istore hC dX10_generate_69 (Nat.le_of_ble_eq_true rfl) ?_
              dsimp only [List.set]
              refine g_iconst hC dX10_generate_71 ?_
              refine g_istore hC dX10_generate_72 (Nat.le_of_ble_eq_true rfl) ?_
              dsimp only [List.set]
              first
              | (exact J74 K x mem54 ex0 ⟨K1, K2⟩ K4 ⟨k1, k2, k3, k4, k5⟩ y0 c00 g1 g2 a3 (hvS.st a3 (by decide)) a2 rfl (c.toNat + 1) 0 mem54 (Nat.zero_le _) (by omega) chF.rf0 frS.rf0 ⟨x, by
                   obtain ⟨K', eK', -, -, -, -, w, -⟩ := setAt_view2 (hvS.st a3 (by decide)) kS ex0
                   obtain rfl : K = K' := by omega
                   exact w, rfl, rfl, rfl, by simp [ser], k5, fun w => absurd w (by decide)⟩)
              | (refine ih (k + 1) mem84 (by omega) (by omega) ((c3.trans b3).mono (by decide)) (c4.trans b2) ⟨_, b1, t2, t3, by show st.2.2.2 + 1 = x.2.2.2 + (k + 1); omega, ?_, ?_, fun _ => ?_⟩
                 · show (st.2.2.1.take st.2.2.2 ++ [sv v s k]).take (st.2.2.2 + 1) = _
                   rw [take_all (by rw [List.length_append, List.length_take]; simp; omega), t5, ser, List.append_assoc]
                 · show st.2.2.2 + 1 ≤ (st.2.2.1.take st.2.2.2 ++ [sv v s k]).length
                   rw [List.length_append, List.length_take]; simp; omega
                 · show (st.2.2.1.take st.2.2.2 ++ [sv v s k]).length = st.2.2.2 + 1
                   rw [List.length_append, List.length_take]; simp; omega)
            · refine g_iload hC dX10_generate_65 rfl ?_
              refine g_iret hC hI rfl dX10_generate_67 (Nat.le_of_ble_eq_true rfl) (Nat.le_of_ble_eq_true rfl) ⟨rfl, rfl, _, rfl, ?_⟩
              rw [genS_no (by omega)]
              exact ⟨rfl, ⟨hvL.st a3 (by decide), hvM.st a3 (by decide), hvS.st a3 (by decide), hvC.st a3 (by decide), hvD.st a3 (by decide), hvO.st a3 (by decide), hvI.st a3 (by decide), a2⟩, chA.trans hc0.2 a3.2⟩
        · refine g_bipush hC dX10_generate_43 (by decide +kernel) ?_
          refine g_goto (tgt := 49) hC dX10_generate_45 (by decide) ?_
          refine g_topI (a := genC ss K c) (by first | (exfalso; omega) | (rw [ec, if_neg (by omega), if_neg (by omega)]; done) | (rw [ec, if_neg (by omega), if_pos (by omega)]; done)) ?_
          have cr : 0 ≤ genC ss K c ∧ genC ss K c ≤ 12 := by
            rw [ec, if_neg (by omega)]
            split <;> omega
          refine g_istore hC dX10_generate_49 (Nat.le_of_ble_eq_true rfl) ?_
          dsimp only [List.set]
          refine g_aload_n hC dX10_generate_51 rfl ?_
          refine g_iload hC dX10_generate_52 rfl ?_
          refine g_VM hC (kX10_acts (gl X) (gD X) (gac X) m B g y z _ hM9 hvT kT cr) cvX10_acts lkX10_151 (by assumption) rfl rfl (Nat.le_of_ble_eq_true rfl) (hI.fit (Nat.le_of_ble_eq_true rfl) (Nat.le_of_ble_eq_true rfl) (Nat.le_of_ble_eq_true rfl)) dX10_generate_54 (fun x54 mem54 hx54 => ?_)
          obtain ⟨a1, a2, a3⟩ := hx54
          refine g_if_eq (tgt := 65) hC dX10_generate_57 (by decide) ⟨by omega, by omega⟩ (fun h57 => ?_) (fun h57 => ?_)
          · refine g_iload hC dX10_generate_65 rfl ?_
            refine g_iret hC hI rfl dX10_generate_67 (Nat.le_of_ble_eq_true rfl) (Nat.le_of_ble_eq_true rfl) ⟨rfl, rfl, _, rfl, ?_⟩
            rw [genS_no (by omega)]
            exact ⟨rfl, ⟨hvL.st a3 (by decide), hvM.st a3 (by decide), hvS.st a3 (by decide), hvC.st a3 (by decide), hvD.st a3 (by decide), hvO.st a3 (by decide), hvI.st a3 (by decide), a2⟩, chA.trans hc0.2 a3.2⟩
          · refine g_iload hC dX10_generate_60 rfl ?_
            refine g_if_le (tgt := 68) hC dX10_generate_62 (by decide) ⟨by omega, by omega⟩ (fun h62 => ?_) (fun h62 => ?_)
            · have y0 : y = 0 := by omega
              have c00 : genC ss K c = 0 := by omega
              obtain ⟨-, g1, g2⟩ := genC_ok ex0 (Or.inl c00)
              refine g_iload_n hC dX10_generate_68 rfl ?_
              refine g_istore hC dX10_generate_69 (Nat.le_of_ble_eq_true rfl) ?_
              dsimp only [List.set]
              refine g_iconst hC dX10_generate_71 ?_
              refine g_istore hC dX10_generate_72 (Nat.le_of_ble_eq_true rfl) ?_
              dsimp only [List.set]
              first
              | (exact J74 K x mem54 ex0 ⟨K1, K2⟩ K4 ⟨k1, k2, k3, k4, k5⟩ y0 c00 g1 g2 a3 (hvS.st a3 (by decide)) a2 rfl (c.toNat + 1) 0 mem54 (Nat.zero_le _) (by omega) chF.rf0 frS.rf0 ⟨x, by
                   obtain ⟨K', eK', -, -, -, -, w, -⟩ := setAt_view2 (hvS.st a3 (by decide)) kS ex0
                   obtain rfl : K = K' := by omega
                   exact w, rfl, rfl, rfl, by simp [ser], k5, fun w => absurd w (by decide)⟩)
              | (refine ih (k + 1) mem84 (by omega) (by omega) ((c3.trans b3).mono (by decide)) (c4.trans b2) ⟨_, b1, t2, t3, by show st.2.2.2 + 1 = x.2.2.2 + (k + 1); omega, ?_, ?_, fun _ => ?_⟩
                 · show (st.2.2.1.take st.2.2.2 ++ [sv v s k]).take (st.2.2.2 + 1) = _
                   rw [take_all (by rw [List.length_append, List.length_take]; simp; omega), t5, ser, List.append_assoc]
                 · show st.2.2.2 + 1 ≤ (st.2.2.1.take st.2.2.2 ++ [sv v s k]).length
                   rw [List.length_append, List.length_take]; simp; omega
                 · show (st.2.2.1.take st.2.2.2 ++ [sv v s k]).length = st.2.2.2 + 1
                   rw [List.length_append, List.length_take]; simp; omega)
            · refine g_iload hC dX10_generate_65 rfl ?_
              refine g_iret hC hI rfl dX10_generate_67 (Nat.le_of_ble_eq_true rfl) (Nat.le_of_ble_eq_true rfl) ⟨rfl, rfl, _, rfl, ?_⟩
              rw [genS_no (by omega)]
              exact ⟨rfl, ⟨hvL.st a3 (by decide), hvM.st a3 (by decide), hvS.st a3 (by decide), hvC.st a3 (by decide), hvD.st a3 (by decide), hvO.st a3 (by decide), hvI.st a3 (by decide), a2⟩, chA.trans hc0.2 a3.2⟩
      · refine g_bipush hC dX10_generate_27 (by decide +kernel) ?_
        refine g_iret hC hI rfl dX10_generate_29 (Nat.le_of_ble_eq_true rfl) (Nat.le_of_ble_eq_true rfl) ⟨rfl, rfl, _, rfl, ?_⟩
        have e8 : genC ss K c = -4 := by rw [ec, if_pos (by omega)]
        rw [genS_no (fun w => by omega), e8, show stG g (-4) = g from rfl, show stZ y z (-4) = z from if_neg (by omega)]
        exact ⟨rfl, ⟨hV9, hc0.2⟩⟩
  · refine g_bipush hC dX10_generate_13 (by decide +kernel) ?_
    refine g_iret hC hI rfl dX10_generate_15 (Nat.le_of_ble_eq_true rfl) (Nat.le_of_ble_eq_true rfl) ⟨rfl, rfl, _, rfl, ?_⟩
    have e9 : setAt ss n = none := (by rcases hx7 with ⟨w, -⟩ | ⟨-, w⟩; omega; exact w)
    rw [genS_no (fun w => by have := genC_none (c := c) e9; omega)]
    have e8 : genC ss n c = -2 := by rw [genC, e9]
    rw [e8, show stG g (-2) = g from rfl, show stZ y z (-2) = z from if_neg (by omega)]
    exact ⟨rfl, ⟨hV9, hc0.2⟩⟩
set_option maxHeartbeats 4000000 in
set_option maxRecDepth 100000 in
theorem kX10_repro (lc : Launch) (D : va_G) (ac : Nat → ClassId) {sh : Nat → Nat × Nat} {rf : Nat → Nat → Option Nat} {mem : Nat → Nat → Int} (m : Nat) (B : Nat → Nat) (rp ex ar : List Int) (ms : List (Option MemT)) (ss : List (Option SetT)) (ch : Lns) (ds : Dfs) (lk : Nat) (g y z : Int) (n q : Int) (hM : MO sh rf m B) (hV : MV m B mem rp ms ss ch ds lk ex ar g y z) (kS : okS ss) (kT : 0 ≤ g ∧ g ≤ 12 ∧ (y = 0 ∨ y = 1)) (h_n : inR n) (h_q : inR q) : gMet lc D ac mX10_repro 3 [.ref m, .int (iI n), .int (iI q)] 0 0 sh rf mem (pM sh rf (fun r mem1 => r = repC ss n q ∧ MV m B mem1 rp ms (repS ss n q y) ch ds lk ex ar (stG g (repC ss n q)) y (stZ y z (repC ss n q)) ∧ chA m B mem mem1)) := by
  refine gMet.mk (by decide) (by intro v hv; simp at hv; (try rcases hv with rfl | rfl | rfl) <;> rfl) (Nat.le_of_ble_eq_true rfl) (fun X hC hI => ?_)
  show gG X sh rf mem 0 0 0 [some (.ref m), some (.int (iI n)), some (.int (iI q)), none, none, none] []
  have hM9 := hM
  obtain ⟨mo, R4, S4, R5, S5, R6, S6, R7, S7, R8, S8, R9, S9, R10, S10, R11, S11, R12, S12, R13, S13, R14, S14, R15, S15, R16, S16, R17, S17, R19, S19, R20, S20, R21, S21, R22, S22, R25, S25, R26, S26, R27, S27, R30, S30, R31, S31, hBe, hBm, hmB⟩ := hM
  have i_n := h_n
  obtain ⟨n1, n2⟩ := h_n
  have i_q := h_q
  obtain ⟨q1, q2⟩ := h_q
  obtain ⟨mem0, e0⟩ : ∃ q, q = gup mem m 0 0 := ⟨_, rfl⟩
  obtain ⟨hV0, hc0⟩ := MV.code (v := 0) hmB hV
  rw [← e0] at hV0 hc0
  have hV9 := hV0
  obtain ⟨hvL, hvM, hvS, hvC, hvD, hvO, hvI, hvT⟩ := hV0
  have J90 : ∀ (K T : Nat) (x p : SetT) (m0 : Nat → Nat → Int), setAt ss K = some x → setAt ss T = some p → (1 ≤ K ∧ K ≤ 20) → (1 ≤ T ∧ T ≤ 20) → ss.getD (T - 1) none = some p → sB1 B m0 K x → (x.2.2.1.length ≤ 60 ∧ x.2.2.2 ≤ x.2.2.1.length) → p.2.2.2 ≤ p.2.2.1.length → y = 0 → repC ss K T = 0 → K ≠ T → x.2.2.2 + p.2.2.2 ≤ 60 → x.2.2.2 ≠ 0 → chF m B mem0 m0 [33, 34] → vS m B m0 ss → vT m m0 (stG g (repC ss K T)) y (stZ y z (repC ss K T)) → n = K → q = T → ∀ (t k : Nat) (m1 : Nat → Nat → Int), k ≤ x.2.2.2 → x.2.2.2 < k + t → chF m B m0 m1 [13, 14, 15] → frS B m0 m1 T → (∃ st : SetT, sB1 B m1 T st ∧ st.1 = p.1 ∧ st.2.1 = p.2.1 ∧ st.2.2.2 = p.2.2.2 + k ∧ st.2.2.1.take st.2.2.2 = p.2.2.1.take p.2.2.2 ++ x.2.2.1.take k ∧ st.2.2.2 ≤ st.2.2.1.length ∧ (1 ≤ k → st.2.2.1.length = st.2.2.2)) → gG X sh rf m1 0 0 90 [some (.ref m), some (.int (iI K)), some (.int (iI T)), some (.int (iI x.2.2.2)), some (.int (iI (repC ss K T))), some (.int (iI k))] [] := by
    intro K T x p m0 ex0 ep0 hK hT T4 hS6 hx hp y0 c00 g1 g2 g3 a3 hS5 a2 en eq9 t
    obtain ⟨k4, k5⟩ := hx
    induction t with
    | zero => intro k m1 c1 c2; omega
    | succ t ih =>
      intro k m1 c1 c2 c3 c4 c5
      obtain ⟨st, t1, t2, t3, t4, t5, t6, t7⟩ := c5
      refine g_iload hC dX10_repro_90 rfl ?_
      refine g_iload_n hC dX10_repro_92 rfl ?_
      refine g_icmp_ge (tgt := 119) hC dX10_repro_93 (by decide) ⟨by omega, by omega⟩ ⟨by omega, by omega⟩ (fun h93 => ?_) (fun h93 => ?_)
      · refine g_iload hC dX10_repro_119 rfl ?_
        refine g_iret hC hI rfl dX10_repro_121 (Nat.le_of_ble_eq_true rfl) (Nat.le_of_ble_eq_true rfl) ⟨rfl, rfl, _, rfl, ?_⟩
        obtain rfl : k = x.2.2.2 := by omega
        have t8 := t7 (by omega)
        have e8 : st = (p.1, p.2.1, p.2.2.1.take p.2.2.2 ++ x.2.2.1.take x.2.2.2, p.2.2.2 + x.2.2.2) := by
          rw [← t2, ← t3, ← t5, ← t4, take_all t8]
        rw [e8] at t1
        subst en eq9
        rw [repS_yes ex0 ep0 ⟨y0, c00⟩, show ((T : Int) - 1).toNat = T - 1 by omega]
        have K9 : T - 1 + 1 = T := by omega
        have key := vS_set (k := T - 1) hS5 kS T4 (by rw [K9]; exact t1) (by rw [K9]; exact c4) (c3.1 3 (by decide)).1
        have a4 := a3.trans c3
        exact ⟨rfl, ⟨hvL.st a4 (by decide), hvM.st a4 (by decide), key, hvC.st a4 (by decide), hvD.st a4 (by decide), hvO.st a4 (by decide), hvI.st a4 (by decide), a2.st c3 (by decide)⟩, chA.trans hc0.2 a4.2⟩
      · refine g_aload_n hC dX10_repro_96 rfl ?_
        refine g_iload_n hC dX10_repro_97 rfl ?_
        refine g_aload_n hC dX10_repro_98 rfl ?_
        refine g_getR hC fdX10_44 (by assumption) (by assumption) dX10_repro_99 ?_
        refine g_bipush hC dX10_repro_102 (by decide +kernel) ?_
        refine g_iload_n hC dX10_repro_104 rfl ?_
        refine g_imul hC dX10_repro_105 ?_
        refine g_iload hC dX10_repro_106 rfl ?_
        refine g_iadd hC dX10_repro_108 ?_
        have w9 : (60 * (K : Int) + k).toNat = 60 * K + k := by omega
        have w8 : m1 (B 15) (60 * (K : Int) + k).toNat = x.2.2.1.getD k 0 := by
          rw [w9, c4.2 _ (by omega)]
          exact hS6.2.2.2.2.2 k (by omega)
        refine g_iald hC (by assumption) (by omega) (by omega) (by decide) dX10_repro_109 ?_
        rw [w8]
        refine g_VV hC (kX10_append (gl X) (gD X) (gac X) m B T st (x.2.2.1.getD k 0) hM9 t1 ⟨by omega, by omega⟩ (by omega) t6) cvX10_append lkX10_161 (by assumption) rfl rfl (Nat.le_of_ble_eq_true rfl) (hI.fit (Nat.le_of_ble_eq_true rfl) (Nat.le_of_ble_eq_true rfl) (Nat.le_of_ble_eq_true rfl)) dX10_repro_110 (fun mem110 hx110 => ?_)
        obtain ⟨b1, b2, b3⟩ := hx110
        refine g_iinc hC dX10_repro_113 rfl ?_
        dsimp only [List.set]
        refine g_goto (tgt := 90) hC dX10_repro_116 (by decide) ?_
        first
        | (have hS8 := hvS.st a3 (by decide)
           have w1 : sB1 B mem73 K x := by
             obtain ⟨K', eK', -, -, -, -, w, -⟩ := setAt_view2 hS8 kS ex0
             obtain rfl : K = K' := by omega
             exact w
           have w2 : sB1 B mem73 T p := by
             obtain ⟨K', eK', -, -, -, -, w, -⟩ := setAt_view2 hS8 kS ep0
             obtain rfl : T = K' := by omega
             exact w
           exact J90 K T x p mem73 ex0 ep0 ⟨K1, K2⟩ ⟨T1, T2⟩ T4 w1 ⟨k4, k5⟩ j5 y0 c00 (by omega) g2 g3 a3 hS8 a2 rfl rfl (x.2.2.2 + 1) 0 mem73 (Nat.zero_le _) (by omega) chF.rf0 frS.rf0 ⟨p, w2, rfl, rfl, rfl, by simp, j5, fun w => absurd w (by decide)⟩)
        | (refine ih (k + 1) mem110 (by omega) (by omega) ((c3.trans b3).mono (by decide)) (c4.trans b2) ⟨_, b1, t2, t3, by show st.2.2.2 + 1 = p.2.2.2 + (k + 1); omega, ?_, ?_, fun _ => ?_⟩
           · show (st.2.2.1.take st.2.2.2 ++ [x.2.2.1.getD k 0]).take (st.2.2.2 + 1) = _
             rw [take_all (by rw [List.length_append, List.length_take]; simp; omega), t5, take_succ1 (by omega), List.append_assoc]
           · show st.2.2.2 + 1 ≤ (st.2.2.1.take st.2.2.2 ++ [x.2.2.1.getD k 0]).length
             rw [List.length_append, List.length_take]; simp; omega
           · show (st.2.2.1.take st.2.2.2 ++ [x.2.2.1.getD k 0]).length = st.2.2.2 + 1
             rw [List.length_append, List.length_take]; simp; omega)
  refine g_aload_n hC dX10_repro_0 rfl ?_
  refine g_iconst hC dX10_repro_1 ?_
  refine g_putI hC fdX10_84 (by assumption) rfl rfl dX10_repro_2 ?_
  rw [← e0]
  refine g_aload_n hC dX10_repro_5 rfl ?_
  refine g_iload_n hC dX10_repro_6 rfl ?_
  refine g_VP hC (kX10_isSet (gl X) (gD X) (gac X) m B ss n hM9 hvS kS i_n) cvX10_isSet lkX10_154 (by assumption) rfl rfl (Nat.le_of_ble_eq_true rfl) (hI.fit (Nat.le_of_ble_eq_true rfl) (Nat.le_of_ble_eq_true rfl) (Nat.le_of_ble_eq_true rfl)) dX10_repro_7 (fun x7 hx7 => ?_)
  refine g_if_eq (tgt := 21) hC dX10_repro_10 (by decide) ⟨by omega, by omega⟩ (fun h10 => ?_) (fun h10 => ?_)
  · refine g_bipush hC dX10_repro_21 (by decide +kernel) ?_
    refine g_iret hC hI rfl dX10_repro_23 (Nat.le_of_ble_eq_true rfl) (Nat.le_of_ble_eq_true rfl) ⟨rfl, rfl, _, rfl, ?_⟩
    have e8 : repC ss n q = -2 := by
      first
      | exact repC_none1 (by rcases hx7 with ⟨w, -⟩ | ⟨-, w⟩; omega; exact w)
      | exact repC_none2 (by rcases hx15 with ⟨w, -⟩ | ⟨-, w⟩; omega; exact w)
    rw [repS_no (by omega), e8, show stG g (-2) = g from rfl, show stZ y z (-2) = z from if_neg (by omega)]
    exact ⟨rfl, ⟨hV9, hc0.2⟩⟩
  · refine g_aload_n hC dX10_repro_13 rfl ?_
    refine g_iload_n hC dX10_repro_14 rfl ?_
    refine g_VP hC (kX10_isSet (gl X) (gD X) (gac X) m B ss q hM9 hvS kS i_q) cvX10_isSet lkX10_154 (by assumption) rfl rfl (Nat.le_of_ble_eq_true rfl) (hI.fit (Nat.le_of_ble_eq_true rfl) (Nat.le_of_ble_eq_true rfl) (Nat.le_of_ble_eq_true rfl)) dX10_repro_15 (fun x15 hx15 => ?_)
    refine g_if_ne (tgt := 24) hC dX10_repro_18 (by decide) ⟨by omega, by omega⟩ (fun h18 => ?_) (fun h18 => ?_)
    · have qs : setAt ss n ≠ none := by
        rcases hx7 with ⟨-, w⟩ | ⟨w, -⟩
        · exact w
        · omega
      obtain ⟨x, ex0⟩ := Option.ne_none_iff_exists'.mp qs
      obtain ⟨K, eK, K1, K2, K3, K4, hSK, k1, k2, k3, k4, k5⟩ := setAt_view2 hvS kS ex0
      have qt : setAt ss q ≠ none := by
        rcases hx15 with ⟨-, w⟩ | ⟨w, -⟩
        · exact w
        · omega
      obtain ⟨p, ep0⟩ := Option.ne_none_iff_exists'.mp qt
      obtain ⟨T, eT, T1, T2, T3, T4, hST, j1, j2, j3, j4, j5⟩ := setAt_view2 hvS kS ep0
      subst eK eT
      have ec := repC_eq ex0 ep0
      have l5 : mem0 (B 14) (K : Int).toNat = x.2.2.2 := hSK.2.2.2.2.1
      have l6 : mem0 (B 14) (T : Int).toNat = p.2.2.2 := hST.2.2.2.2.1
      refine g_aload_n hC dX10_repro_24 rfl ?_
      refine g_getR hC fdX10_41 (by assumption) (by assumption) dX10_repro_25 ?_
      refine g_iload_n hC dX10_repro_28 rfl ?_
      refine g_iald hC (by assumption) (by omega) (by omega) (by decide) dX10_repro_29 ?_
      rw [l5]
      refine g_istore_n hC 3 rfl dX10_repro_30 (Nat.le_of_ble_eq_true rfl) ?_
      dsimp only [List.set]
      refine g_iload_n hC dX10_repro_31 rfl ?_
      refine g_iload_n hC dX10_repro_32 rfl ?_
      refine g_icmp_ne (tgt := 41) hC dX10_repro_33 (by decide) ⟨by omega, by omega⟩ ⟨by omega, by omega⟩ (fun h33 => ?_) (fun h33 => ?_)
      · refine g_iload_n hC dX10_repro_41 rfl ?_
        refine g_aload_n hC dX10_repro_42 rfl ?_
        refine g_getR hC fdX10_41 (by assumption) (by assumption) dX10_repro_43 ?_
        refine g_iload_n hC dX10_repro_46 rfl ?_
        refine g_iald hC (by assumption) (by omega) (by omega) (by decide) dX10_repro_47 ?_
        refine g_iadd hC dX10_repro_48 ?_
        refine g_bipush hC dX10_repro_49 (by decide +kernel) ?_
        refine g_icmp_le (tgt := 59) hC dX10_repro_51 (by decide) ⟨by omega, by omega⟩ ⟨by omega, by omega⟩ (fun h51 => ?_) (fun h51 => ?_)
        · refine g_iload_n hC dX10_repro_59 rfl ?_
          refine g_if_ne (tgt := 67) hC dX10_repro_60 (by decide) ⟨by omega, by omega⟩ (fun h60 => ?_) (fun h60 => ?_)
          · refine g_iconst hC dX10_repro_67 ?_
            refine g_topI (a := repC ss K T) (by first | (exfalso; omega) | (rw [ec, if_pos (by omega)]; done) | (rw [ec, if_neg (by omega), if_pos (by omega)]; done) | (rw [ec, if_neg (by omega), if_neg (by omega), if_pos (by omega)]; done) | (rw [ec, if_neg (by omega), if_neg (by omega), if_neg (by omega)]; done)) ?_
            have cr : 0 ≤ repC ss K T ∧ repC ss K T ≤ 12 := by
              rw [ec]
              (repeat' split) <;> omega
            refine g_istore hC dX10_repro_68 (Nat.le_of_ble_eq_true rfl) ?_
            dsimp only [List.set]
            refine g_aload_n hC dX10_repro_70 rfl ?_
            refine g_iload hC dX10_repro_71 rfl ?_
            refine g_VM hC (kX10_acts (gl X) (gD X) (gac X) m B g y z _ hM9 hvT kT cr) cvX10_acts lkX10_151 (by assumption) rfl rfl (Nat.le_of_ble_eq_true rfl) (hI.fit (Nat.le_of_ble_eq_true rfl) (Nat.le_of_ble_eq_true rfl) (Nat.le_of_ble_eq_true rfl)) dX10_repro_73 (fun x73 mem73 hx73 => ?_)
            obtain ⟨a1, a2, a3⟩ := hx73
            refine g_if_eq (tgt := 84) hC dX10_repro_76 (by decide) ⟨by omega, by omega⟩ (fun h76 => ?_) (fun h76 => ?_)
            · refine g_iload hC dX10_repro_84 rfl ?_
              refine g_iret hC hI rfl dX10_repro_86 (Nat.le_of_ble_eq_true rfl) (Nat.le_of_ble_eq_true rfl) ⟨rfl, rfl, _, rfl, ?_⟩
              rw [repS_no (by omega)]
              exact ⟨rfl, ⟨hvL.st a3 (by decide), hvM.st a3 (by decide), hvS.st a3 (by decide), hvC.st a3 (by decide), hvD.st a3 (by decide), hvO.st a3 (by decide), hvI.st a3 (by decide), a2⟩, chA.trans hc0.2 a3.2⟩
            · refine g_iload hC dX10_repro_79 rfl ?_
              refine g_if_le (tgt := 87) hC dX10_repro_81 (by decide) ⟨by omega, by omega⟩ (fun h81 => ?_) (fun h81 => ?_)
              · have y0 : y = 0 := by omega
                have c00 : repC ss K T = 0 := by omega
                obtain ⟨g1, g2, g3⟩ := repC_ok ex0 ep0 c00
                refine g_iconst hC dX10_repro_87 ?_
                refine g_istore hC dX10_repro_88 (Nat.le_of_ble_eq_true rfl) ?_
                dsimp only [List.set]
                first
                | (have hS8 := hvS.st a3 (by decide)
                   have w1 : sB1 B mem73 K x := by
                     obtain ⟨K', eK', -, -, -, -, w, -⟩ := setAt_view2 hS8 kS ex0
                     obtain rfl : K = K' := by omega
                     exact w
                   have w2 : sB1 B mem73 T p := by
                     obtain ⟨K', eK', -, -, -, -, w, -⟩ := setAt_view2 hS8 kS ep0
                     obtain rfl : T = K' := by omega
                     exact w
                   exact J90 K T x p mem73 ex0 ep0 ⟨K1, K2⟩ ⟨T1, T2⟩ T4 w1 ⟨k4, k5⟩ j5 y0 c00 (by omega) g2 g3 a3 hS8 a2 rfl rfl (x.2.2.2 + 1) 0 mem73 (Nat.zero_le _) (by omega) chF.rf0 frS.rf0 ⟨p, w2, rfl, rfl, rfl, by simp, j5, fun w => absurd w (by decide)⟩)
                | (refine ih (k + 1) mem110 (by omega) (by omega) ((c3.trans b3).mono (by decide)) (c4.trans b2) ⟨_, b1, t2, t3, by show st.2.2.2 + 1 = p.2.2.2 + (k + 1); omega, ?_, ?_, fun _ => ?_⟩
                   · show (st.2.2.1.take st.2.2.2 ++ [x.2.2.1.getD k 0]).take (st.2.2.2 + 1) = _
                     rw [take_all (by rw [List.length_append, List.length_take]; simp; omega), t5, take_succ1 (by omega), List.append_assoc]
                   · show st.2.2.2 + 1 ≤ (st.2.2.1.take st.2.2.2 ++ [x.2.2.1.getD k 0]).length
                     rw [List.length_append, List.length_take]; simp; omega
                   · show (st.2.2.1.take st.2.2.2 ++ [x.2.2.1.getD k 0]).length = st.2.2.2 + 1
                     rw [List.length_append, List.length_take]; simp; omega)
              · refine g_iload hC dX10_repro_84 rfl ?_
                refine g_iret hC hI rfl dX10_repro_86 (Nat.le_of_ble_eq_true rfl) (Nat.le_of_ble_eq_true rfl) ⟨rfl, rfl, _, rfl, ?_⟩
                rw [repS_no (by omega)]
                exact ⟨rfl, ⟨hvL.st a3 (by decide), hvM.st a3 (by decide), hvS.st a3 (by decide), hvC.st a3 (by decide), hvD.st a3 (by decide), hvO.st a3 (by decide), hvI.st a3 (by decide), a2⟩, chA.trans hc0.2 a3.2⟩
          · refine g_iconst hC dX10_repro_63 ?_
            refine g_goto (tgt := 68) hC dX10_repro_64 (by decide) ?_
            refine g_topI (a := repC ss K T) (by first | (exfalso; omega) | (rw [ec, if_pos (by omega)]; done) | (rw [ec, if_neg (by omega), if_pos (by omega)]; done) | (rw [ec, if_neg (by omega), if_neg (by omega), if_pos (by omega)]; done) | (rw [ec, if_neg (by omega), if_neg (by omega), if_neg (by omega)]; done)) ?_
            have cr : 0 ≤ repC ss K T ∧ repC ss K T ≤ 12 := by
              rw [ec]
              (repeat' split) <;> omega
            refine g_istore hC dX10_repro_68 (Nat.le_of_ble_eq_true rfl) ?_
            dsimp only [List.set]
            refine g_aload_n hC dX10_repro_70 rfl ?_
            refine g_iload hC dX10_repro_71 rfl ?_
            refine g_VM hC (kX10_acts (gl X) (gD X) (gac X) m B g y z _ hM9 hvT kT cr) cvX10_acts lkX10_151 (by assumption) rfl rfl (Nat.le_of_ble_eq_true rfl) (hI.fit (Nat.le_of_ble_eq_true rfl) (Nat.le_of_ble_eq_true rfl) (Nat.le_of_ble_eq_true rfl)) dX10_repro_73 (fun x73 mem73 hx73 => ?_)
            obtain ⟨a1, a2, a3⟩ := hx73
            refine g_if_eq (tgt := 84) hC dX10_repro_76 (by decide) ⟨by omega, by omega⟩ (fun h76 => ?_) (fun h76 => ?_)
            · refine g_iload hC dX10_repro_84 rfl ?_
              refine g_iret hC hI rfl dX10_repro_86 (Nat.le_of_ble_eq_true rfl) (Nat.le_of_ble_eq_true rfl) ⟨rfl, rfl, _, rfl, ?_⟩
              rw [repS_no (by omega)]
              exact ⟨rfl, ⟨hvL.st a3 (by decide), hvM.st a3 (by decide), hvS.st a3 (by decide), hvC.st a3 (by decide), hvD.st a3 (by decide), hvO.st a3 (by decide), hvI.st a3 (by decide), a2⟩, chA.trans hc0.2 a3.2⟩
            · refine g_iload hC dX10_repro_79 rfl ?_
              refine g_if_le (tgt := 87) hC dX10_repro_81 (by decide) ⟨by omega, by omega⟩ (fun h81 => ?_) (fun h81 => ?_)
              · have y0 : y = 0 := by omega
                have c00 : repC ss K T = 0 := by omega
                obtain ⟨g1, g2, g3⟩ := repC_ok ex0 ep0 c00
                refine g_iconst hC dX10_repro_87 ?_
                refine g_istore hC dX10_repro_88 (Nat.le_of_ble_eq_true rfl) ?_
                dsimp only [List.set]
                first
                | (have hS8 := hvS.st a3 (by decide)
                   have w1 : sB1 B mem73 K x := by
                     obtain ⟨K', eK', -, -, -, -, w, -⟩ := setAt_view2 hS8 kS ex0
                     obtain rfl : K = K' := by omega
                     exact w
                   have w2 : sB1 B mem73 T p := by
                     obtain ⟨K', eK', -, -, -, -, w, -⟩ := setAt_view2 hS8 kS ep0
                     obtain rfl : T = K' := by omega
                     exact w
                   exact J90 K T x p mem73 ex0 ep0 ⟨K1, K2⟩ ⟨T1, T2⟩ T4 w1 ⟨k4, k5⟩ j5 y0 c00 (by omega) g2 g3 a3 hS8 a2 rfl rfl (x.2.2.2 + 1) 0 mem73 (Nat.zero_le _) (by omega) chF.rf0 frS.rf0 ⟨p, w2, rfl, rfl, rfl, by simp, j5, fun w => absurd w (by decide)⟩)
                | (refine ih (k + 1) mem110 (by omega) (by omega) ((c3.trans b3).mono (by decide)) (c4.trans b2) ⟨_, b1, t2, t3, by show st.2.2.2 + 1 = p.2.2.2 + (k + 1); omega, ?_, ?_, fun _ => ?_⟩
                   · show (st.2.2.1.take st.2.2.2 ++ [x.2.2.1.getD k 0]).take (st.2.2.2 + 1) = _
                     rw [take_all (by rw [List.length_append, List.length_take]; simp; omega), t5, take_succ1 (by omega), List.append_assoc]
                   · show st.2.2.2 + 1 ≤ (st.2.2.1.take st.2.2.2 ++ [x.2.2.1.getD k 0]).length
                     rw [List.length_append, List.length_take]; simp; omega
                   · show (st.2.2.1.take st.2.2.2 ++ [x.2.2.1.getD k 0]).length = st.2.2.2 + 1
                     rw [List.length_append, List.length_take]; simp; omega)
              · refine g_iload hC dX10_repro_84 rfl ?_
                refine g_iret hC hI rfl dX10_repro_86 (Nat.le_of_ble_eq_true rfl) (Nat.le_of_ble_eq_true rfl) ⟨rfl, rfl, _, rfl, ?_⟩
                rw [repS_no (by omega)]
                exact ⟨rfl, ⟨hvL.st a3 (by decide), hvM.st a3 (by decide), hvS.st a3 (by decide), hvC.st a3 (by decide), hvD.st a3 (by decide), hvO.st a3 (by decide), hvI.st a3 (by decide), a2⟩, chA.trans hc0.2 a3.2⟩
        · refine g_bipush hC dX10_repro_54 (by decide +kernel) ?_
          refine g_goto (tgt := 68) hC dX10_repro_56 (by decide) ?_
          refine g_topI (a := repC ss K T) (by first | (exfalso; omega) | (rw [ec, if_pos (by omega)]; done) | (rw [ec, if_neg (by omega), if_pos (by omega)]; done) | (rw [ec, if_neg (by omega), if_neg (by omega), if_pos (by omega)]; done) | (rw [ec, if_neg (by omega), if_neg (by omega), if_neg (by omega)]; done)) ?_
          have cr : 0 ≤ repC ss K T ∧ repC ss K T ≤ 12 := by
            rw [ec]
            (repeat' split) <;> omega
          refine g_istore hC dX10_repro_68 (Nat.le_of_ble_eq_true rfl) ?_
          dsimp only [List.set]
          refine g_aload_n hC dX10_repro_70 rfl ?_
          refine g_iload hC dX10_repro_71 rfl ?_
          refine g_VM hC (kX10_acts (gl X) (gD X) (gac X) m B g y z _ hM9 hvT kT cr) cvX10_acts lkX10_151 (by assumption) rfl rfl (Nat.le_of_ble_eq_true rfl) (hI.fit (Nat.le_of_ble_eq_true rfl) (Nat.le_of_ble_eq_true rfl) (Nat.le_of_ble_eq_true rfl)) dX10_repro_73 (fun x73 mem73 hx73 => ?_)
          obtain ⟨a1, a2, a3⟩ := hx73
          refine g_if_eq (tgt := 84) hC dX10_repro_76 (by decide) ⟨by omega, by omega⟩ (fun h76 => ?_) (fun h76 => ?_)
          · refine g_iload hC dX10_repro_84 rfl ?_
            refine g_iret hC hI rfl dX10_repro_86 (Nat.le_of_ble_eq_true rfl) (Nat.le_of_ble_eq_true rfl) ⟨rfl, rfl, _, rfl, ?_⟩
            rw [repS_no (by omega)]
            exact ⟨rfl, ⟨hvL.st a3 (by decide), hvM.st a3 (by decide), hvS.st a3 (by decide), hvC.st a3 (by decide), hvD.st a3 (by decide), hvO.st a3 (by decide), hvI.st a3 (by decide), a2⟩, chA.trans hc0.2 a3.2⟩
          · refine g_iload hC dX10_repro_79 rfl ?_
            refine g_if_le (tgt := 87) hC dX10_repro_81 (by decide) ⟨by omega, by omega⟩ (fun h81 => ?_) (fun h81 => ?_)
            · have y0 : y = 0 := by omega
              have c00 : repC ss K T = 0 := by omega
              obtain ⟨g1, g2, g3⟩ := repC_ok ex0 ep0 c00
              refine g_iconst hC dX10_repro_87 ?_
              refine g_istore hC dX10_repro_88 (Nat.le_of_ble_eq_true rfl) ?_
              dsimp only [List.set]
              first
              | (have hS8 := hvS.st a3 (by decide)
                 have w1 : sB1 B mem73 K x := by
                   obtain ⟨K', eK', -, -, -, -, w, -⟩ := setAt_view2 hS8 kS ex0
                   obtain rfl : K = K' := by omega
                   exact w
                 have w2 : sB1 B mem73 T p := by
                   obtain ⟨K', eK', -, -, -, -, w, -⟩ := setAt_view2 hS8 kS ep0
                   obtain rfl : T = K' := by omega
                   exact w
                 exact J90 K T x p mem73 ex0 ep0 ⟨K1, K2⟩ ⟨T1, T2⟩ T4 w1 ⟨k4, k5⟩ j5 y0 c00 (by omega) g2 g3 a3 hS8 a2 rfl rfl (x.2.2.2 + 1) 0 mem73 (Nat.zero_le _) (by omega) chF.rf0 frS.rf0 ⟨p, w2, rfl, rfl, rfl, by simp, j5, fun w => absurd w (by decide)⟩)
              | (refine ih (k + 1) mem110 (by omega) (by omega) ((c3.trans b3).mono (by decide)) (c4.trans b2) ⟨_, b1, t2, t3, by show st.2.2.2 + 1 = p.2.2.2 + (k + 1); omega, ?_, ?_, fun _ => ?_⟩
                 · show (st.2.2.1.take st.2.2.2 ++ [x.2.2.1.getD k 0]).take (st.2.2.2 + 1) = _
                   rw [take_all (by rw [List.length_append, List.length_take]; simp; omega), t5, take_succ1 (by omega), List.append_assoc]
                 · show st.2.2.2 + 1 ≤ (st.2.2.1.take st.2.2.2 ++ [x.2.2.1.getD k 0]).length
                   rw [List.length_append, List.length_take]; simp; omega
                 · show (st.2.2.1.take st.2.2.2 ++ [x.2.2.1.getD k 0]).length = st.2.2.2 + 1
                   rw [List.length_append, List.length_take]; simp; omega)
            · refine g_iload hC dX10_repro_84 rfl ?_
              refine g_iret hC hI rfl dX10_repro_86 (Nat.le_of_ble_eq_true rfl) (Nat.le_of_ble_eq_true rfl) ⟨rfl, rfl, _, rfl, ?_⟩
              rw [repS_no (by omega)]
              exact ⟨rfl, ⟨hvL.st a3 (by decide), hvM.st a3 (by decide), hvS.st a3 (by decide), hvC.st a3 (by decide), hvD.st a3 (by decide), hvO.st a3 (by decide), hvI.st a3 (by decide), a2⟩, chA.trans hc0.2 a3.2⟩
      · refine g_bipush hC dX10_repro_36 (by decide +kernel) ?_
        refine g_goto (tgt := 68) hC dX10_repro_38 (by decide) ?_
        refine g_topI (a := repC ss K T) (by first | (exfalso; omega) | (rw [ec, if_pos (by omega)]; done) | (rw [ec, if_neg (by omega), if_pos (by omega)]; done) | (rw [ec, if_neg (by omega), if_neg (by omega), if_pos (by omega)]; done) | (rw [ec, if_neg (by omega), if_neg (by omega), if_neg (by omega)]; done)) ?_
        have cr : 0 ≤ repC ss K T ∧ repC ss K T ≤ 12 := by
          rw [ec]
          (repeat' split) <;> omega
        refine g_istore hC dX10_repro_68 (Nat.le_of_ble_eq_true rfl) ?_
        dsimp only [List.set]
        refine g_aload_n hC dX10_repro_70 rfl ?_
        refine g_iload hC dX10_repro_71 rfl ?_
        refine g_VM hC (kX10_acts (gl X) (gD X) (gac X) m B g y z _ hM9 hvT kT cr) cvX10_acts lkX10_151 (by assumption) rfl rfl (Nat.le_of_ble_eq_true rfl) (hI.fit (Nat.le_of_ble_eq_true rfl) (Nat.le_of_ble_eq_true rfl) (Nat.le_of_ble_eq_true rfl)) dX10_repro_73 (fun x73 mem73 hx73 => ?_)
        obtain ⟨a1, a2, a3⟩ := hx73
        refine g_if_eq (tgt := 84) hC dX10_repro_76 (by decide) ⟨by omega, by omega⟩ (fun h76 => ?_) (fun h76 => ?_)
        · refine g_iload hC dX10_repro_84 rfl ?_
          refine g_iret hC hI rfl dX10_repro_86 (Nat.le_of_ble_eq_true rfl) (Nat.le_of_ble_eq_true rfl) ⟨rfl, rfl, _, rfl, ?_⟩
          rw [repS_no (by omega)]
          exact ⟨rfl, ⟨hvL.st a3 (by decide), hvM.st a3 (by decide), hvS.st a3 (by decide), hvC.st a3 (by decide), hvD.st a3 (by decide), hvO.st a3 (by decide), hvI.st a3 (by decide), a2⟩, chA.trans hc0.2 a3.2⟩
        · refine g_iload hC dX10_repro_79 rfl ?_
          refine g_if_le (tgt := 87) hC dX10_repro_81 (by decide) ⟨by omega, by omega⟩ (fun h81 => ?_) (fun h81 => ?_)
          · have y0 : y = 0 := by omega
            have c00 : repC ss K T = 0 := by omega
            obtain ⟨g1, g2, g3⟩ := repC_ok ex0 ep0 c00
            refine g_iconst hC dX10_repro_87 ?_
            refine g_istore hC dX10_repro_88 (Nat.le_of_ble_eq_true rfl) ?_
            dsimp only [List.set]
            first
            | (have hS8 := hvS.st a3 (by decide)
               have w1 : sB1 B mem73 K x := by
                 obtain ⟨K', eK', -, -, -, -, w, -⟩ := setAt_view2 hS8 kS ex0
                 obtain rfl : K = K' := by omega
                 exact w
               have w2 : sB1 B mem73 T p := by
                 obtain ⟨K', eK', -, -, -, -, w, -⟩ := setAt_view2 hS8 kS ep0
                 obtain rfl : T = K' := by omega
                 exact w
               exact J90 K T x p mem73 ex0 ep0 ⟨K1, K2⟩ ⟨T1, T2⟩ T4 w1 ⟨k4, k5⟩ j5 y0 c00 (by omega) g2 g3 a3 hS8 a2 rfl rfl (x.2.2.2 + 1) 0 mem73 (Nat.zero_le _) (by omega) chF.rf0 frS.rf0 ⟨p, w2, rfl, rfl, rfl, by simp, j5, fun w => absurd w (by decide)⟩)
            | (refine ih (k + 1) mem110 (by omega) (by omega) ((c3.trans b3).mono (by decide)) (c4.trans b2) ⟨_, b1, t2, t3, by show st.2.2.2 + 1 = p.2.2.2 + (k + 1); omega, ?_, ?_, fun _ => ?_⟩
               · show (st.2.2.1.take st.2.2.2 ++ [x.2.2.1.getD k 0]).take (st.2.2.2 + 1) = _
                 rw [take_all (by rw [List.length_append, List.length_take]; simp; omega), t5, take_succ1 (by omega), List.append_assoc]
               · show st.2.2.2 + 1 ≤ (st.2.2.1.take st.2.2.2 ++ [x.2.2.1.getD k 0]).length
                 rw [List.length_append, List.length_take]; simp; omega
               · show (st.2.2.1.take st.2.2.2 ++ [x.2.2.1.getD k 0]).length = st.2.2.2 + 1
                 rw [List.length_append, List.length_take]; simp; omega)
          · refine g_iload hC dX10_repro_84 rfl ?_
            refine g_iret hC hI rfl dX10_repro_86 (Nat.le_of_ble_eq_true rfl) (Nat.le_of_ble_eq_true rfl) ⟨rfl, rfl, _, rfl, ?_⟩
            rw [repS_no (by omega)]
            exact ⟨rfl, ⟨hvL.st a3 (by decide), hvM.st a3 (by decide), hvS.st a3 (by decide), hvC.st a3 (by decide), hvD.st a3 (by decide), hvO.st a3 (by decide), hvI.st a3 (by decide), a2⟩, chA.trans hc0.2 a3.2⟩
    · refine g_bipush hC dX10_repro_21 (by decide +kernel) ?_
      refine g_iret hC hI rfl dX10_repro_23 (Nat.le_of_ble_eq_true rfl) (Nat.le_of_ble_eq_true rfl) ⟨rfl, rfl, _, rfl, ?_⟩
      have e8 : repC ss n q = -2 := by
        first
        | exact repC_none1 (by rcases hx7 with ⟨w, -⟩ | ⟨-, w⟩; omega; exact w)
        | exact repC_none2 (by rcases hx15 with ⟨w, -⟩ | ⟨-, w⟩; omega; exact w)
      rw [repS_no (by omega), e8, show stG g (-2) = g from rfl, show stZ y z (-2) = z from if_neg (by omega)]
      exact ⟨rfl, ⟨hV9, hc0.2⟩⟩
