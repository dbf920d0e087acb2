section M5
variable {mem mem1 mem2 : Nat → Nat → Int} {m : Nat} {B : Nat → Nat} {ms ns : List (Option MemT)} {rp : List Int} {xs ys : Lns}
theorem memAt_view2 {n : Int} {x : MemT} (h : vM m B mem ms) (e : memAt ms n = some x) : ∃ K : Nat, n = (K : Int) ∧ 1 ≤ K ∧ K ≤ ms.length ∧ ms.getD (K - 1) none = some x ∧ lnM B mem K x.2.2 := by
  obtain ⟨k, h1, h2, h3, h4⟩ := memAt_view h e
  exact ⟨k + 1, by omega, by omega, by omega, h3, h4.2.2.2⟩
theorem set_selfM {k : Nat} {q : MemT} (h : ms.getD k none = some q) : ms.set k (some q) = ms := by
  have hk : k < ms.length := getD_ltM (by rw [h]; simp)
  apply List.ext_getElem?
  intro j
  rw [List.getElem?_set]
  by_cases e : k = j
  · subst e
    rw [if_pos rfl, if_pos hk]
    rw [List.getD_eq_getElem?_getD] at h
    rw [List.getElem?_eq_getElem hk] at h ⊢
    simp at h
    rw [h]
  · rw [if_neg e]
theorem okL_ins {p : Nat} {n : Int} (h : okL xs) (hl : xs.length < 30) (hp : p ≤ xs.length) (hn : 0 ≤ n ∧ n ≤ 9999) : okL (xs.insertIdx p (n, [])) := by
  refine ⟨by rw [List.length_insertIdx, if_pos hp]; omega, fun j => ?_⟩
  rw [nu_ins _ hp, sg_ins _ hp]
  by_cases e1 : j < p
  · rw [if_pos e1, if_pos e1]; exact h.2 j
  · rw [if_neg e1, if_neg e1]
    by_cases e2 : j = p
    · rw [if_pos e2, if_pos e2]
      refine ⟨Nat.zero_le _, hn.1, hn.2, fun i => ?_⟩
      rw [getD_out (Nat.zero_le _)]
      decide
    · rw [if_neg e2, if_neg e2]; exact h.2 (j - 1)
theorem sign_view {k p : Nat} {c : Int} (hBe : ∀ i j, (B i = B j) = (i = j)) (hmB : ∀ i, (m = B i) = False) (hl : lnM B mem k ys) (ok : okL ys) (hp : p < ys.length) (hs : (sg ys p).length < 10) : lnM B (gup (gup mem (B 11) (10 * (30 * k + p) + (sg ys p).length) c) (B 10) (30 * k + p) ((sg ys p).length + 1)) k (ys.set p (nu ys p, sg ys p ++ [c])) ∧ frB B mem (gup (gup mem (B 11) (10 * (30 * k + p) + (sg ys p).length) c) (B 10) (30 * k + p) ((sg ys p).length + 1)) k ∧ chF m B mem (gup (gup mem (B 11) (10 * (30 * k + p) + (sg ys p).length) c) (B 10) (30 * k + p) ((sg ys p).length + 1)) [10, 11] := by
  obtain ⟨h1, h2⟩ := hl
  obtain ⟨o1, o2⟩ := ok
  refine ⟨⟨?_, fun j hj => ?_⟩, ⟨fun j hj => ?_, fun a ha => ?_⟩, ((chF.row hBe hmB).trans (chF.row hBe hmB)).mono (by decide)⟩
  · rw [List.length_set]; simp [gup, hBe]; exact h1
  · rw [List.length_set] at hj
    rw [nu_set _ hp, sg_set _ hp]
    obtain ⟨u1, u2, u3⟩ := h2 j hj
    by_cases e : j = p
    · subst e
      rw [if_pos rfl, if_pos rfl]
      refine ⟨by simp [gup, hBe]; exact u1, by simp [gup, hBe], fun i hi => ?_⟩
      show _ = (sg ys j ++ [c]).getD i 0
      rw [getD_snd]
      by_cases e2 : i = (sg ys j).length
      · rw [if_pos e2, e2]; simp [gup, hBe]
      · rw [if_neg e2]
        have hi2 : i < (sg ys j).length := by
          have : i < (sg ys j ++ [c]).length := hi
          simp at this
          omega
        simp [gup, hBe, e2]; exact u3 i hi2
    · rw [if_neg e, if_neg e]
      have o3 := (o2 j).1
      refine ⟨by simp [gup, hBe]; exact u1, by simp [gup, hBe, e]; exact u2, fun i hi => ?_⟩
      have ne : 10 * (30 * k + j) + i ≠ 10 * (30 * k + p) + (sg ys p).length := by omega
      simp [gup, hBe, ne]; exact u3 i hi
  · simp [gup, hBe]
  · have ne : a ≠ 30 * k + p := by omega
    refine ⟨by simp [gup, hBe], by simp [gup, hBe, ne], fun i hi => ?_⟩
    have ne2 : 10 * a + i ≠ 10 * (30 * k + p) + (sg ys p).length := by omega
    simp [gup, hBe, ne2]
theorem lnSign_there {n c : Int} (h : nu xs (plc xs n) = n) (h1 : plc xs n < xs.length) (h2 : (sg xs (plc xs n)).length < 10) : lnSign xs n c = xs.set (plc xs n) (nu xs (plc xs n), sg xs (plc xs n) ++ [c]) := by
  rw [lnSign, if_pos h, lnAdd, if_pos ⟨h1, h2⟩]
theorem lnSign_new {n c : Int} (h : nu xs (plc xs n) ≠ n) (h1 : xs.length < 30) : lnSign xs n c = (xs.insertIdx (plc xs n) (n, [])).set (plc xs n) (nu (xs.insertIdx (plc xs n) (n, [])) (plc xs n), sg (xs.insertIdx (plc xs n) (n, [])) (plc xs n) ++ [c]) := by
  have hp := plc_le n xs
  have e : sg (xs.insertIdx (plc xs n) (n, [])) (plc xs n) = [] := by rw [sg_ins _ hp, if_neg (Nat.lt_irrefl _), if_pos rfl]
  rw [lnSign, if_neg h, if_pos h1, lnAdd, if_pos ⟨by rw [List.length_insertIdx, if_pos hp]; omega, by rw [e]; decide⟩]
theorem lnSign_no {n c : Int} (h : (nu xs (plc xs n) = n ∧ ¬ (sg xs (plc xs n)).length < 10) ∨ (nu xs (plc xs n) ≠ n ∧ ¬ xs.length < 30)) : lnSign xs n c = xs := by
  rcases h with ⟨h1, h2⟩ | ⟨h1, h2⟩
  · rw [lnSign, if_pos h1, lnAdd, if_neg (fun w => h2 w.2)]
  · rw [lnSign, if_neg h1, if_neg h2]
theorem there_iff {n : Int} (hn : 1 ≤ n) : (plc xs n < xs.length ∧ nu xs (plc xs n) = n) ↔ nu xs (plc xs n) = n := by
  refine ⟨fun h => h.2, fun h => ⟨?_, h⟩⟩
  apply Classical.byContradiction
  intro w
  rw [nu_out (by omega)] at h
  omega
end M5
set_option maxHeartbeats 4000000 in
set_option maxRecDepth 100000 in
theorem kX10_line (lc : Launch) (D : va_G) (ac : Nat → ClassId) {sh : Nat → Nat × Nat} {rf : Nat → Nat → Option Nat} {mem : Nat → Nat → Int} (m : Nat) (B : Nat → Nat) (rp ex ar : List Int) (ms : List (Option MemT)) (ss : List (Option SetT)) (ch : Lns) (ds : Dfs) (lk : Nat) (g y z : Int) (l n c : Int) (hM : MO sh rf m B) (hV : MV m B mem rp ms ss ch ds lk ex ar g y z) (kM : okM ms) (h_p : inR l) (h_q : inR n) (h_c : inR c) : gMet lc D ac mX10_line 3 [.ref m, .int (iI l), .int (iI n), .int (iI c)] 0 0 sh rf mem (pV sh rf (fun mem1 => MV m B mem1 rp (linS ms l n c) ss ch ds lk ex ar g y z ∧ chA m B mem mem1)) := by
  refine gMet.mk (by decide) (by intro v hv; simp at hv; (try rcases hv with rfl | rfl | rfl | rfl) <;> rfl) (Nat.le_of_ble_eq_true rfl) (fun X hC hI => ?_)
  show gG X sh rf mem 0 0 0 [some (.ref m), some (.int (iI l)), some (.int (iI n)), some (.int (iI c)), none, none] []
  have hM9 := hM
  obtain ⟨mo, R4, S4, R5, S5, R6, S6, R7, S7, R8, S8, R9, S9, R10, S10, R11, S11, R12, S12, R13, S13, R14, S14, R15, S15, R16, S16, R17, S17, R19, S19, R20, S20, R21, S21, R22, S22, R25, S25, R26, S26, R27, S27, R30, S30, R31, S31, hBe, hBm, hmB⟩ := hM
  have i_p := h_p
  obtain ⟨p1, p2⟩ := h_p
  have i_q := h_q
  obtain ⟨q1, q2⟩ := h_q
  have i_c := h_c
  obtain ⟨c1, c2⟩ := h_c
  refine g_aload_n hC dX10_line_0 rfl ?_
  refine g_iconst hC dX10_line_1 ?_
  refine g_putI hC fdX10_84 (by assumption) rfl rfl dX10_line_2 ?_
  obtain ⟨mem0, e0⟩ : ∃ q, q = gup mem m 0 0 := ⟨_, rfl⟩
  rw [← e0]
  obtain ⟨hV0, hc0⟩ := MV.code (v := 0) hmB hV
  rw [← e0] at hV0 hc0
  have hV9 := hV0
  obtain ⟨hvL, hvM, hvS, hvC, hvD, hvO, hvI, hvT⟩ := hV0
  refine g_aload_n hC dX10_line_5 rfl ?_
  refine g_iload_n hC dX10_line_6 rfl ?_
  refine g_VP hC (kX10_isMember (gl X) (gD X) (gac X) m B ms l hM9 hvM kM i_p) cvX10_isMember lkX10_114 (by assumption) rfl rfl (Nat.le_of_ble_eq_true rfl) (hI.fit (Nat.le_of_ble_eq_true rfl) (Nat.le_of_ble_eq_true rfl) (Nat.le_of_ble_eq_true rfl)) dX10_line_7 (fun x7 hx7 => ?_)
  refine g_if_eq (tgt := 27) hC dX10_line_10 (by decide) ⟨by omega, by omega⟩ (fun h10 => ?_) (fun h10 => ?_)
  · refine g_vret hC hI rfl dX10_line_27 (Nat.le_of_ble_eq_true rfl) (Nat.le_of_ble_eq_true rfl) ⟨rfl, rfl, rfl, ?_⟩
    first
    | (rw [linS_none (by rcases hx7 with ⟨w, -⟩ | ⟨-, w⟩; omega; exact w)]
       exact ⟨hV9, hc0.2⟩)
    | (cases e9 : memAt ms l with
       | none => rw [linS_none e9]; exact ⟨hV9, hc0.2⟩
       | some q => rw [linS_no e9 (by omega)]; exact ⟨hV9, hc0.2⟩)
  · refine g_iload_n hC dX10_line_13 rfl ?_
    refine g_SP hC (kX10_isNumber (gl X) (gD X) (gac X) n i_q) csX10_isNumber lkX10_117 rfl rfl (Nat.le_of_ble_eq_true rfl) (hI.fit (Nat.le_of_ble_eq_true rfl) (Nat.le_of_ble_eq_true rfl) (Nat.le_of_ble_eq_true rfl)) dX10_line_14 (fun x14 hx14 => ?_)
    refine g_if_eq (tgt := 27) hC dX10_line_17 (by decide) ⟨by omega, by omega⟩ (fun h17 => ?_) (fun h17 => ?_)
    · refine g_vret hC hI rfl dX10_line_27 (Nat.le_of_ble_eq_true rfl) (Nat.le_of_ble_eq_true rfl) ⟨rfl, rfl, rfl, ?_⟩
      first
      | (rw [linS_none (by rcases hx7 with ⟨w, -⟩ | ⟨-, w⟩; omega; exact w)]
         exact ⟨hV9, hc0.2⟩)
      | (cases e9 : memAt ms l with
         | none => rw [linS_none e9]; exact ⟨hV9, hc0.2⟩
         | some q => rw [linS_no e9 (by omega)]; exact ⟨hV9, hc0.2⟩)
    · refine g_iload_n hC dX10_line_20 rfl ?_
      refine g_SP hC (kX10_isSign (gl X) (gD X) (gac X) c i_c) csX10_isSign lkX10_120 rfl rfl (Nat.le_of_ble_eq_true rfl) (hI.fit (Nat.le_of_ble_eq_true rfl) (Nat.le_of_ble_eq_true rfl) (Nat.le_of_ble_eq_true rfl)) dX10_line_21 (fun x21 hx21 => ?_)
      refine g_if_ne (tgt := 28) hC dX10_line_24 (by decide) ⟨by omega, by omega⟩ (fun h24 => ?_) (fun h24 => ?_)
      · have q7 : memAt ms l ≠ none := by
          rcases hx7 with ⟨-, w⟩ | ⟨w, -⟩
          · exact w
          · omega
        obtain ⟨x, ex0⟩ := Option.ne_none_iff_exists'.mp q7
        obtain ⟨K, eK, K1, K2, K3, hLK⟩ := memAt_view2 hvM ex0
        have k1 := kM.1
        have okK := (kM.2 _ _ K3).2.2.2.2
        have hpl := plc_le n x.2.2
        have z70 := okK.1
        have ys9 := linS_yes (n := n) (c := c) ex0 ⟨by omega, by omega⟩
        subst eK
        have e9 : ((K : Int) - 1).toNat = K - 1 := by omega
        have eP : (30 * (K : Int) + plc x.2.2 n).toNat = 30 * K + plc x.2.2 n := by omega
        refine g_aload_n hC dX10_line_28 rfl ?_
        refine g_iload_n hC dX10_line_29 rfl ?_
        refine g_iload_n hC dX10_line_30 rfl ?_
        refine g_VP hC (kX10_placeOf (gl X) (gD X) (gac X) m B K x.2.2 n hM9 hLK okK ⟨by omega, by omega⟩ i_q) cvX10_placeOf lkX10_123 (by assumption) rfl rfl (Nat.le_of_ble_eq_true rfl) (hI.fit (Nat.le_of_ble_eq_true rfl) (Nat.le_of_ble_eq_true rfl) (Nat.le_of_ble_eq_true rfl)) dX10_line_31 (fun x31 hx31 => ?_)
        subst hx31
        refine g_istore hC dX10_line_34 (Nat.le_of_ble_eq_true rfl) ?_
        dsimp only [List.set]
        refine g_aload_n hC dX10_line_36 rfl ?_
        refine g_iload_n hC dX10_line_37 rfl ?_
        refine g_iload hC dX10_line_38 rfl ?_
        refine g_iload_n hC dX10_line_40 rfl ?_
        refine g_VP hC (kX10_isAt (gl X) (gD X) (gac X) m B K x.2.2 (plc x.2.2 n) n hM9 hLK okK ⟨by omega, by omega⟩ i_q hpl) cvX10_isAt lkX10_126 (by assumption) rfl rfl (Nat.le_of_ble_eq_true rfl) (hI.fit (Nat.le_of_ble_eq_true rfl) (Nat.le_of_ble_eq_true rfl) (Nat.le_of_ble_eq_true rfl)) dX10_line_41 (fun x41 hx41 => ?_)
        refine g_istore hC dX10_line_44 (Nat.le_of_ble_eq_true rfl) ?_
        dsimp only [List.set]
        refine g_iload hC dX10_line_46 rfl ?_
        refine g_if_eq (tgt := 66) hC dX10_line_48 (by decide) ⟨by omega, by omega⟩ (fun h48 => ?_) (fun h48 => ?_)
        · refine g_aload_n hC dX10_line_66 rfl ?_
          refine g_getR hC fdX10_20 (by assumption) (by assumption) dX10_line_67 ?_
          refine g_iload_n hC dX10_line_70 rfl ?_
          have z71 : mem0 (B 7) (K : Int).toNat = x.2.2.length := hLK.1
          have z72 := okK.1
          refine g_iald hC (by assumption) (by omega) (by omega) (by decide) dX10_line_71 ?_
          refine g_bipush hC dX10_line_72 (by decide +kernel) ?_
          refine g_icmp_ne (tgt := 78) hC dX10_line_74 (by decide) ⟨by omega, by omega⟩ ⟨by omega, by omega⟩ (fun h74 => ?_) (fun h74 => ?_)
          · refine g_iload hC dX10_line_78 rfl ?_
            refine g_if_ne (tgt := 91) hC dX10_line_80 (by decide) ⟨by omega, by omega⟩ (fun h80 => ?_) (fun h80 => ?_)
            · have K9 : K - 1 + 1 = K := by omega
              have tf := there_iff (xs := x.2.2) (n := n) (by omega)
              obtain ⟨ys, hL5, hF5, hC5, ok5, hp5, hsz, heq⟩ : ∃ ys, lnM B mem0 K ys ∧ frB B mem0 mem0 K ∧ chF m B mem0 mem0 [7, 9, 10, 11] ∧ okL ys ∧ plc x.2.2 n < ys.length ∧ (sg ys (plc x.2.2 n)).length < 10 ∧ lnSign x.2.2 n c = ys.set (plc x.2.2 n) (nu ys (plc x.2.2 n), sg ys (plc x.2.2 n) ++ [c]) := by
                first
                | (exfalso; omega)
                | (refine ⟨_, hx88.1, hx88.2.1, hx88.2.2, okL_ins okK (by omega) hpl (by omega), by rw [List.length_insertIdx, if_pos hpl]; omega, by rw [sg_ins _ hpl, if_neg (Nat.lt_irrefl _), if_pos rfl]; exact Nat.zero_lt_succ _, lnSign_new (fun w => ?_) (by omega)⟩
                   have := tf.mpr w
                   omega)
                | exact ⟨x.2.2, hLK, ⟨fun _ _ => rfl, fun _ _ => ⟨rfl, rfl, fun _ _ => rfl⟩⟩, chF.rf0, okK, by omega, by omega, lnSign_there (by omega) (by omega) (by omega)⟩
              have z5 := ok5.1
              have z106 : mem0 (B 10) (30 * (K : Int) + plc x.2.2 n).toNat = (sg ys (plc x.2.2 n)).length := by rw [eP]; exact (hL5.2 _ hp5).2.1
              have eQ : (10 * (30 * (K : Int) + plc x.2.2 n) + (sg ys (plc x.2.2 n)).length).toNat = 10 * (30 * K + plc x.2.2 n) + (sg ys (plc x.2.2 n)).length := by omega
              refine g_aload_n hC dX10_line_91 rfl ?_
              refine g_getR hC fdX10_32 (by assumption) (by assumption) dX10_line_92 ?_
              refine g_bipush hC dX10_line_95 (by decide +kernel) ?_
              refine g_iload hC dX10_line_97 rfl ?_
              refine g_imul hC dX10_line_99 ?_
              refine g_aload_n hC dX10_line_100 rfl ?_
              refine g_getR hC fdX10_29 (by assumption) (by assumption) dX10_line_101 ?_
              refine g_iload hC dX10_line_104 rfl ?_
              refine g_iald hC (by assumption) (by omega) (by omega) (by decide) dX10_line_106 ?_
              rw [z106]
              refine g_iadd hC dX10_line_107 ?_
              refine g_iload_n hC dX10_line_108 rfl ?_
              refine g_iast hC (by assumption) (by omega) (by omega) (by decide) dX10_line_109 ?_
              obtain ⟨mem6, e6⟩ : ∃ q, q = gup mem0 (B 11) (10 * (30 * (K : Int) + plc x.2.2 n) + (sg ys (plc x.2.2 n)).length).toNat c := ⟨_, rfl⟩
              rw [← e6]
              have z117 : mem6 (B 10) (30 * (K : Int) + plc x.2.2 n).toNat = (sg ys (plc x.2.2 n)).length := by rw [e6, gup_a _ _ _ _ (by simp [hBe])]; exact z106
              refine g_aload_n hC dX10_line_110 rfl ?_
              refine g_getR hC fdX10_29 (by assumption) (by assumption) dX10_line_111 ?_
              refine g_iload hC dX10_line_114 rfl ?_
              refine g_dup2 hC dX10_line_116 rfl rfl ?_
              refine g_iald hC (by assumption) (by omega) (by omega) (by decide) dX10_line_117 ?_
              rw [z117]
              refine g_iconst hC dX10_line_118 ?_
              refine g_iadd hC dX10_line_119 ?_
              refine g_iast hC (by assumption) (by omega) (by omega) (by decide) dX10_line_120 ?_
              refine g_vret hC hI rfl dX10_line_121 (Nat.le_of_ble_eq_true rfl) (Nat.le_of_ble_eq_true rfl) ⟨rfl, rfl, rfl, ?_⟩
              obtain ⟨s1, s2, s3⟩ := sign_view (c := c) hBe hmB hL5 ok5 hp5 hsz
              rw [e6, eQ, eP]
              have s4 := (hC5.trans s3).mono (ws := [7, 9, 10, 11]) (by decide)
              have key := vM_lines (k := K - 1) hvM kM K3 (by rw [K9]; exact s1) (by rw [K9]; exact hF5.trans s2) s4
              rw [ys9, e9, heq]
              exact ⟨⟨hvL.st s4 (by decide), key, hvS.st s4 (by decide), hvC.st s4 (by decide), hvD.st s4 (by decide), hvO.st s4 (by decide), hvI.st s4 (by decide), hvT.st s4 (by decide)⟩, chA.trans hc0.2 s4.2⟩
            · refine g_aload_n hC dX10_line_83 rfl ?_
              refine g_iload_n hC dX10_line_84 rfl ?_
              refine g_iload hC dX10_line_85 rfl ?_
              refine g_iload_n hC dX10_line_87 rfl ?_
              refine g_VV hC (kX10_open (gl X) (gD X) (gac X) m B K x.2.2 (plc x.2.2 n) n hM9 hLK okK ⟨by omega, by omega⟩ (by omega) hpl) cvX10_open lkX10_130 (by assumption) rfl rfl (Nat.le_of_ble_eq_true rfl) (hI.fit (Nat.le_of_ble_eq_true rfl) (Nat.le_of_ble_eq_true rfl) (Nat.le_of_ble_eq_true rfl)) dX10_line_88 (fun mem88 hx88 => ?_)
              have K9 : K - 1 + 1 = K := by omega
              have tf := there_iff (xs := x.2.2) (n := n) (by omega)
              obtain ⟨ys, hL5, hF5, hC5, ok5, hp5, hsz, heq⟩ : ∃ ys, lnM B mem88 K ys ∧ frB B mem0 mem88 K ∧ chF m B mem0 mem88 [7, 9, 10, 11] ∧ okL ys ∧ plc x.2.2 n < ys.length ∧ (sg ys (plc x.2.2 n)).length < 10 ∧ lnSign x.2.2 n c = ys.set (plc x.2.2 n) (nu ys (plc x.2.2 n), sg ys (plc x.2.2 n) ++ [c]) := by
                first
                | (exfalso; omega)
                | (refine ⟨_, hx88.1, hx88.2.1, hx88.2.2, okL_ins okK (by omega) hpl (by omega), by rw [List.length_insertIdx, if_pos hpl]; omega, by rw [sg_ins _ hpl, if_neg (Nat.lt_irrefl _), if_pos rfl]; exact Nat.zero_lt_succ _, lnSign_new (fun w => ?_) (by omega)⟩
                   have := tf.mpr w
                   omega)
                | exact ⟨x.2.2, hLK, ⟨fun _ _ => rfl, fun _ _ => ⟨rfl, rfl, fun _ _ => rfl⟩⟩, chF.rf0, okK, by omega, by omega, lnSign_there (by omega) (by omega) (by omega)⟩
              have z5 := ok5.1
              have z106 : mem88 (B 10) (30 * (K : Int) + plc x.2.2 n).toNat = (sg ys (plc x.2.2 n)).length := by rw [eP]; exact (hL5.2 _ hp5).2.1
              have eQ : (10 * (30 * (K : Int) + plc x.2.2 n) + (sg ys (plc x.2.2 n)).length).toNat = 10 * (30 * K + plc x.2.2 n) + (sg ys (plc x.2.2 n)).length := by omega
              refine g_aload_n hC dX10_line_91 rfl ?_
              refine g_getR hC fdX10_32 (by assumption) (by assumption) dX10_line_92 ?_
              refine g_bipush hC dX10_line_95 (by decide +kernel) ?_
              refine g_iload hC dX10_line_97 rfl ?_
              refine g_imul hC dX10_line_99 ?_
              refine g_aload_n hC dX10_line_100 rfl ?_
              refine g_getR hC fdX10_29 (by assumption) (by assumption) dX10_line_101 ?_
              refine g_iload hC dX10_line_104 rfl ?_
              refine g_iald hC (by assumption) (by omega) (by omega) (by decide) dX10_line_106 ?_
              rw [z106]
              refine g_iadd hC dX10_line_107 ?_
              refine g_iload_n hC dX10_line_108 rfl ?_
              refine g_iast hC (by assumption) (by omega) (by omega) (by decide) dX10_line_109 ?_
              obtain ⟨mem6, e6⟩ : ∃ q, q = gup mem88 (B 11) (10 * (30 * (K : Int) + plc x.2.2 n) + (sg ys (plc x.2.2 n)).length).toNat c := ⟨_, rfl⟩
              rw [← e6]
              have z117 : mem6 (B 10) (30 * (K : Int) + plc x.2.2 n).toNat = (sg ys (plc x.2.2 n)).length := by rw [e6, gup_a _ _ _ _ (by simp [hBe])]; exact z106
              refine g_aload_n hC dX10_line_110 rfl ?_
              refine g_getR hC fdX10_29 (by assumption) (by assumption) dX10_line_111 ?_
              refine g_iload hC dX10_line_114 rfl ?_
              refine g_dup2 hC dX10_line_116 rfl rfl ?_
              refine g_iald hC (by assumption) (by omega) (by omega) (by decide) dX10_line_117 ?_
              rw [z117]
              refine g_iconst hC dX10_line_118 ?_
              refine g_iadd hC dX10_line_119 ?_
              refine g_iast hC (by assumption) (by omega) (by omega) (by decide) dX10_line_120 ?_
              refine g_vret hC hI rfl dX10_line_121 (Nat.le_of_ble_eq_true rfl) (Nat.le_of_ble_eq_true rfl) ⟨rfl, rfl, rfl, ?_⟩
              obtain ⟨s1, s2, s3⟩ := sign_view (c := c) hBe hmB hL5 ok5 hp5 hsz
              rw [e6, eQ, eP]
              have s4 := (hC5.trans s3).mono (ws := [7, 9, 10, 11]) (by decide)
              have key := vM_lines (k := K - 1) hvM kM K3 (by rw [K9]; exact s1) (by rw [K9]; exact hF5.trans s2) s4
              rw [ys9, e9, heq]
              exact ⟨⟨hvL.st s4 (by decide), key, hvS.st s4 (by decide), hvC.st s4 (by decide), hvD.st s4 (by decide), hvO.st s4 (by decide), hvI.st s4 (by decide), hvT.st s4 (by decide)⟩, chA.trans hc0.2 s4.2⟩
          · refine g_vret hC hI rfl dX10_line_77 (Nat.le_of_ble_eq_true rfl) (Nat.le_of_ble_eq_true rfl) ⟨rfl, rfl, rfl, ?_⟩
            have tf := there_iff (xs := x.2.2) (n := n) (by omega)
            have hno : lnSign x.2.2 n c = x.2.2 := by
              first
              | exact lnSign_no (Or.inl ⟨by omega, by omega⟩)
              | exact lnSign_no (Or.inr ⟨fun w => by have := tf.mpr w; omega, by omega⟩)
            rw [ys9, hno, e9, set_selfM K3]
            exact ⟨hV9, hc0.2⟩
        · refine g_aload_n hC dX10_line_51 rfl ?_
          refine g_getR hC fdX10_29 (by assumption) (by assumption) dX10_line_52 ?_
          refine g_iload hC dX10_line_55 rfl ?_
          have z57 : mem0 (B 10) (30 * (K : Int) + plc x.2.2 n).toNat = (sg x.2.2 (plc x.2.2 n)).length := by rw [eP]; exact (hLK.2 _ (by omega)).2.1
          have z58 := (okK.2 (plc x.2.2 n)).1
          refine g_iald hC (by assumption) (by omega) (by omega) (by decide) dX10_line_57 ?_
          refine g_bipush hC dX10_line_58 (by decide +kernel) ?_
          refine g_icmp_ne (tgt := 78) hC dX10_line_60 (by decide) ⟨by omega, by omega⟩ ⟨by omega, by omega⟩ (fun h60 => ?_) (fun h60 => ?_)
          · refine g_iload hC dX10_line_78 rfl ?_
            refine g_if_ne (tgt := 91) hC dX10_line_80 (by decide) ⟨by omega, by omega⟩ (fun h80 => ?_) (fun h80 => ?_)
            · have K9 : K - 1 + 1 = K := by omega
              have tf := there_iff (xs := x.2.2) (n := n) (by omega)
              obtain ⟨ys, hL5, hF5, hC5, ok5, hp5, hsz, heq⟩ : ∃ ys, lnM B mem0 K ys ∧ frB B mem0 mem0 K ∧ chF m B mem0 mem0 [7, 9, 10, 11] ∧ okL ys ∧ plc x.2.2 n < ys.length ∧ (sg ys (plc x.2.2 n)).length < 10 ∧ lnSign x.2.2 n c = ys.set (plc x.2.2 n) (nu ys (plc x.2.2 n), sg ys (plc x.2.2 n) ++ [c]) := by
                first
                | (exfalso; omega)
                | (refine ⟨_, hx88.1, hx88.2.1, hx88.2.2, okL_ins okK (by omega) hpl (by omega), by rw [List.length_insertIdx, if_pos hpl]; omega, by rw [sg_ins _ hpl, if_neg (Nat.lt_irrefl _), if_pos rfl]; exact Nat.zero_lt_succ _, lnSign_new (fun w => ?_) (by omega)⟩
                   have := tf.mpr w
                   omega)
                | exact ⟨x.2.2, hLK, ⟨fun _ _ => rfl, fun _ _ => ⟨rfl, rfl, fun _ _ => rfl⟩⟩, chF.rf0, okK, by omega, by omega, lnSign_there (by omega) (by omega) (by omega)⟩
              have z5 := ok5.1
              have z106 : mem0 (B 10) (30 * (K : Int) + plc x.2.2 n).toNat = (sg ys (plc x.2.2 n)).length := by rw [eP]; exact (hL5.2 _ hp5).2.1
              have eQ : (10 * (30 * (K : Int) + plc x.2.2 n) + (sg ys (plc x.2.2 n)).length).toNat = 10 * (30 * K + plc x.2.2 n) + (sg ys (plc x.2.2 n)).length := by omega
              refine g_aload_n hC dX10_line_91 rfl ?_
              refine g_getR hC fdX10_32 (by assumption) (by assumption) dX10_line_92 ?_
              refine g_bipush hC dX10_line_95 (by decide +kernel) ?_
              refine g_iload hC dX10_line_97 rfl ?_
              refine g_imul hC dX10_line_99 ?_
              refine g_aload_n hC dX10_line_100 rfl ?_
              refine g_getR hC fdX10_29 (by assumption) (by assumption) dX10_line_101 ?_
              refine g_iload hC dX10_line_104 rfl ?_
              refine g_iald hC (by assumption) (by omega) (by omega) (by decide) dX10_line_106 ?_
              rw [z106]
              refine g_iadd hC dX10_line_107 ?_
              refine g_iload_n hC dX10_line_108 rfl ?_
              refine g_iast hC (by assumption) (by omega) (by omega) (by decide) dX10_line_109 ?_
              obtain ⟨mem6, e6⟩ : ∃ q, q = gup mem0 (B 11) (10 * (30 * (K : Int) + plc x.2.2 n) + (sg ys (plc x.2.2 n)).length).toNat c := ⟨_, rfl⟩
              rw [← e6]
              have z117 : mem6 (B 10) (30 * (K : Int) + plc x.2.2 n).toNat = (sg ys (plc x.2.2 n)).length := by rw [e6, gup_a _ _ _ _ (by simp [hBe])]; exact z106
              refine g_aload_n hC dX10_line_110 rfl ?_
              refine g_getR hC fdX10_29 (by assumption) (by assumption) dX10_line_111 ?_
              refine g_iload hC dX10_line_114 rfl ?_
              refine g_dup2 hC dX10_line_116 rfl rfl ?_
              refine g_iald hC (by assumption) (by omega) (by omega) (by decide) dX10_line_117 ?_
              rw [z117]
              refine g_iconst hC dX10_line_118 ?_
              refine g_iadd hC dX10_line_119 ?_
              refine g_iast hC (by assumption) (by omega) (by omega) (by decide) dX10_line_120 ?_
              refine g_vret hC hI rfl dX10_line_121 (Nat.le_of_ble_eq_true rfl) (Nat.le_of_ble_eq_true rfl) ⟨rfl, rfl, rfl, ?_⟩
              obtain ⟨s1, s2, s3⟩ := sign_view (c := c) hBe hmB hL5 ok5 hp5 hsz
              rw [e6, eQ, eP]
              have s4 := (hC5.trans s3).mono (ws := [7, 9, 10, 11]) (by decide)
              have key := vM_lines (k := K - 1) hvM kM K3 (by rw [K9]; exact s1) (by rw [K9]; exact hF5.trans s2) s4
              rw [ys9, e9, heq]
              exact ⟨⟨hvL.st s4 (by decide), key, hvS.st s4 (by decide), hvC.st s4 (by decide), hvD.st s4 (by decide), hvO.st s4 (by decide), hvI.st s4 (by decide), hvT.st s4 (by decide)⟩, chA.trans hc0.2 s4.2⟩
            · refine g_aload_n hC dX10_line_83 rfl ?_
              refine g_iload_n hC dX10_line_84 rfl ?_
              refine g_iload hC dX10_line_85 rfl ?_
              refine g_iload_n hC dX10_line_87 rfl ?_
              refine g_VV hC (kX10_open (gl X) (gD X) (gac X) m B K x.2.2 (plc x.2.2 n) n hM9 hLK okK ⟨by omega, by omega⟩ (by omega) hpl) cvX10_open lkX10_130 (by assumption) rfl rfl (Nat.le_of_ble_eq_true rfl) (hI.fit (Nat.le_of_ble_eq_true rfl) (Nat.le_of_ble_eq_true rfl) (Nat.le_of_ble_eq_true rfl)) dX10_line_88 (fun mem88 hx88 => ?_)
              have K9 : K - 1 + 1 = K := by omega
              have tf := there_iff (xs := x.2.2) (n := n) (by omega)
              obtain ⟨ys, hL5, hF5, hC5, ok5, hp5, hsz, heq⟩ : ∃ ys, lnM B mem88 K ys ∧ frB B mem0 mem88 K ∧ chF m B mem0 mem88 [7, 9, 10, 11] ∧ okL ys ∧ plc x.2.2 n < ys.length ∧ (sg ys (plc x.2.2 n)).length < 10 ∧ lnSign x.2.2 n c = ys.set (plc x.2.2 n) (nu ys (plc x.2.2 n), sg ys (plc x.2.2 n) ++ [c]) := by
                first
                | (exfalso; omega)
                | (refine ⟨_, hx88.1, hx88.2.1, hx88.2.2, okL_ins okK (by omega) hpl (by omega), by rw [List.length_insertIdx, if_pos hpl]; omega, by rw [sg_ins _ hpl, if_neg (Nat.lt_irrefl _), if_pos rfl]; exact Nat.zero_lt_succ _, lnSign_new (fun w => ?_) (by omega)⟩
                   have := tf.mpr w
                   omega)
                | exact ⟨x.2.2, hLK, ⟨fun _ _ => rfl, fun _ _ => ⟨rfl, rfl, fun _ _ => rfl⟩⟩, chF.rf0, okK, by omega, by omega, lnSign_there (by omega) (by omega) (by omega)⟩
              have z5 := ok5.1
              have z106 : mem88 (B 10) (30 * (K : Int) + plc x.2.2 n).toNat = (sg ys (plc x.2.2 n)).length := by rw [eP]; exact (hL5.2 _ hp5).2.1
              have eQ : (10 * (30 * (K : Int) + plc x.2.2 n) + (sg ys (plc x.2.2 n)).length).toNat = 10 * (30 * K + plc x.2.2 n) + (sg ys (plc x.2.2 n)).length := by omega
              refine g_aload_n hC dX10_line_91 rfl ?_
              refine g_getR hC fdX10_32 (by assumption) (by assumption) dX10_line_92 ?_
              refine g_bipush hC dX10_line_95 (by decide +kernel) ?_
              refine g_iload hC dX10_line_97 rfl ?_
              refine g_imul hC dX10_line_99 ?_
              refine g_aload_n hC dX10_line_100 rfl ?_
              refine g_getR hC fdX10_29 (by assumption) (by assumption) dX10_line_101 ?_
              refine g_iload hC dX10_line_104 rfl ?_
              refine g_iald hC (by assumption) (by omega) (by omega) (by decide) dX10_line_106 ?_
              rw [z106]
              refine g_iadd hC dX10_line_107 ?_
              refine g_iload_n hC dX10_line_108 rfl ?_
              refine g_iast hC (by assumption) (by omega) (by omega) (by decide) dX10_line_109 ?_
              obtain ⟨mem6, e6⟩ : ∃ q, q = gup mem88 (B 11) (10 * (30 * (K : Int) + plc x.2.2 n) + (sg ys (plc x.2.2 n)).length).toNat c := ⟨_, rfl⟩
              rw [← e6]
              have z117 : mem6 (B 10) (30 * (K : Int) + plc x.2.2 n).toNat = (sg ys (plc x.2.2 n)).length := by rw [e6, gup_a _ _ _ _ (by simp [hBe])]; exact z106
              refine g_aload_n hC dX10_line_110 rfl ?_
              refine g_getR hC fdX10_29 (by assumption) (by assumption) dX10_line_111 ?_
              refine g_iload hC dX10_line_114 rfl ?_
              refine g_dup2 hC dX10_line_116 rfl rfl ?_
              refine g_iald hC (by assumption) (by omega) (by omega) (by decide) dX10_line_117 ?_
              rw [z117]
              refine g_iconst hC dX10_line_118 ?_
              refine g_iadd hC dX10_line_119 ?_
              refine g_iast hC (by assumption) (by omega) (by omega) (by decide) dX10_line_120 ?_
              refine g_vret hC hI rfl dX10_line_121 (Nat.le_of_ble_eq_true rfl) (Nat.le_of_ble_eq_true rfl) ⟨rfl, rfl, rfl, ?_⟩
              obtain ⟨s1, s2, s3⟩ := sign_view (c := c) hBe hmB hL5 ok5 hp5 hsz
              rw [e6, eQ, eP]
              have s4 := (hC5.trans s3).mono (ws := [7, 9, 10, 11]) (by decide)
              have key := vM_lines (k := K - 1) hvM kM K3 (by rw [K9]; exact s1) (by rw [K9]; exact hF5.trans s2) s4
              rw [ys9, e9, heq]
              exact ⟨⟨hvL.st s4 (by decide), key, hvS.st s4 (by decide), hvC.st s4 (by decide), hvD.st s4 (by decide), hvO.st s4 (by decide), hvI.st s4 (by decide), hvT.st s4 (by decide)⟩, chA.trans hc0.2 s4.2⟩
          · refine g_goto (tgt := 77) hC dX10_line_63 (by decide) ?_
            refine g_vret hC hI rfl dX10_line_77 (Nat.le_of_ble_eq_true rfl) (Nat.le_of_ble_eq_true rfl) ⟨rfl, rfl, rfl, ?_⟩
            have tf := there_iff (xs := x.2.2) (n := n) (by omega)
            have hno : lnSign x.2.2 n c = x.2.2 := by
              first
              | exact lnSign_no (Or.inl ⟨by omega, by omega⟩)
              | exact lnSign_no (Or.inr ⟨fun w => by have := tf.mpr w; omega, by omega⟩)
            rw [ys9, hno, e9, set_selfM K3]
            exact ⟨hV9, hc0.2⟩
      · refine g_vret hC hI rfl dX10_line_27 (Nat.le_of_ble_eq_true rfl) (Nat.le_of_ble_eq_true rfl) ⟨rfl, rfl, rfl, ?_⟩
        first
        | (rw [linS_none (by rcases hx7 with ⟨w, -⟩ | ⟨-, w⟩; omega; exact w)]
           exact ⟨hV9, hc0.2⟩)
        | (cases e9 : memAt ms l with
           | none => rw [linS_none e9]; exact ⟨hV9, hc0.2⟩
           | some q => rw [linS_no e9 (by omega)]; exact ⟨hV9, hc0.2⟩)
