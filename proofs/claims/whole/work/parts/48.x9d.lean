set_option maxHeartbeats 4000000 in
set_option maxRecDepth 100000 in
theorem kX9_fitsArriving (lc : Launch) (D : va_G) (ac : Nat → ClassId) {sh : Nat → Nat × Nat} {rf : Nat → Nat → Option Nat} {mem : Nat → Nat → Int} (G : Nat → Prop) (x : Nat) (A la l0 l1 l2 sa ra : Nat → Nat) (rp ex ar : List Int) (ms : List (Option MemT)) (ss : List (Option SetT)) (ch : Lns) (ds : Dfs) (lk : Nat) (g y z : Int) (v : Int) (hW : WXa G sh rf mem x A la l0 l1 l2 sa ra rp ms ss ch ds lk ex ar g y z) (h_p : inR v) : gMet lc D ac mX9_fitsArriving 6 [.ref x, .int (iI v)] 0 0 sh rf mem (pP sh rf mem (fun r => (r = 1 ∧ fitP ss ar v) ∨ (r = 0 ∧ ¬ fitP ss ar v))) := by
  refine gMet.mk (by decide) (by intro v hv; simp at hv; (try rcases hv with rfl | rfl) <;> rfl) (Nat.le_of_ble_eq_true rfl) (fun X hC hI => ?_)
  show gG X sh rf mem 0 0 0 [some (.ref x), some (.int (iI v))] []
  have hW9 := hW
  obtain ⟨⟨ho, r0, r1, r2, r3, r4, r5, r6⟩, ⟨hL, hLv⟩, hR, ⟨hCt, hCo, hCi, hCv⟩, ⟨hMo, hMv, hMl, hMk⟩, ⟨hEo, hEv⟩, ⟨hAo, hAv⟩, ⟨hSo, hS0, hS1, hS2, hSg, hSh, hSy⟩, hD, hG⟩ := hW
  have hLo := hL.1
  have hRo := hR.1
  have hTo := hCt.1
  have hMo1 := hMo.1
  have hEo1 := hEo.1
  have hAo1 := hAo.1
  have i_p := h_p
  obtain ⟨p1, p2⟩ := h_p
  have al := hAv.2.1
  have ft : ¬ (ar.length = 0 ∨ ar.length = 1 ∨ ar.length = 2 ∨ ar.length = 3) → fitP ss ar v := fun w => ⟨fun h => absurd h (by omega), fun h => absurd h (by omega), fun h => absurd h (by omega), fun h => absurd h (by omega)⟩
  have f0 : ar.length = 0 → (fitP ss ar v ↔ v = 69) := fun w => ⟨fun h => h.1 w, fun h => ⟨fun _ => h, fun h => absurd h (by omega), fun h => absurd h (by omega), fun h => absurd h (by omega)⟩⟩
  have f1 : ar.length = 1 → (fitP ss ar v ↔ (0 ≤ v ∧ v < 100) ∧ canT ss v) := fun w => ⟨fun h => h.2.1 w, fun h => ⟨fun h => absurd h (by omega), fun _ => h, fun h => absurd h (by omega), fun h => absurd h (by omega)⟩⟩
  have f2 : ar.length = 2 → (fitP ss ar v ↔ v ≤ 1) := fun w => ⟨fun h => h.2.2.1 w, fun h => ⟨fun h => absurd h (by omega), fun h => absurd h (by omega), fun _ => h, fun h => absurd h (by omega)⟩⟩
  have f3 : ar.length = 3 → (fitP ss ar v ↔ v ≤ 60) := fun w => ⟨fun h => h.2.2.2 w, fun h => ⟨fun h => absurd h (by omega), fun h => absurd h (by omega), fun h => absurd h (by omega), fun _ => h⟩⟩
  refine g_aload_n hC dX9_fitsArriving_0 rfl ?_
  refine g_getR hC fdX9_44 (by assumption) (by assumption) dX9_fitsArriving_1 ?_
  refine g_VP hC (kX5_size (gl X) (gD X) (gac X) (A 17) (A 18) ar hAo hAv) cvX5_size lkX9_190 (by assumption) rfl rfl (Nat.le_of_ble_eq_true rfl) (hI.fit (Nat.le_of_ble_eq_true rfl) (Nat.le_of_ble_eq_true rfl) (Nat.le_of_ble_eq_true rfl)) dX9_fitsArriving_4 (fun x4 hx4 => ?_)
  subst hx4
  rcases (show (ar.length : Int) = 0 ∨ (ar.length : Int) = 1 ∨ (ar.length : Int) = 2 ∨ (ar.length : Int) = 3 ∨ ((ar.length : Int) < 0 ∨ 3 < (ar.length : Int)) by omega) with s7 | s7 | s7 | s7 | s7
  · refine g_tableIn (tgt := 36) hC dX9_fitsArriving_7 (0) s7 ⟨by decide, by decide⟩ (by decide) (by decide) rfl (by decide) ?_
    refine g_iload_n hC dX9_fitsArriving_36 rfl ?_
    refine g_bipush hC dX9_fitsArriving_37 (by decide +kernel) ?_
    refine g_icmp_ne (tgt := 46) hC dX9_fitsArriving_39 (by decide) ⟨by omega, by omega⟩ ⟨by omega, by omega⟩ (fun h39 => ?_) (fun h39 => ?_)
    · refine g_iconst hC dX9_fitsArriving_46 ?_
      refine g_zret hC hI rfl (by decide +kernel) dX9_fitsArriving_47 (Nat.le_of_ble_eq_true rfl) (Nat.le_of_ble_eq_true rfl) ⟨rfl, rfl, rfl, _, rfl, ?_⟩
      rw [f0 (by omega)]
      omega
    · refine g_iconst hC dX9_fitsArriving_42 ?_
      refine g_goto (tgt := 47) hC dX9_fitsArriving_43 (by decide) ?_
      refine g_zret hC hI rfl (by decide +kernel) dX9_fitsArriving_47 (Nat.le_of_ble_eq_true rfl) (Nat.le_of_ble_eq_true rfl) ⟨rfl, rfl, rfl, _, rfl, ?_⟩
      rw [f0 (by omega)]
      omega
  · refine g_tableIn (tgt := 48) hC dX9_fitsArriving_7 (1) s7 ⟨by decide, by decide⟩ (by decide) (by decide) rfl (by decide) ?_
    refine g_iload_n hC dX9_fitsArriving_48 rfl ?_
    refine g_SP hC (kX9_isName (gl X) (gD X) (gac X) v i_p) csX9_isName lkX9_62 rfl rfl (Nat.le_of_ble_eq_true rfl) (hI.fit (Nat.le_of_ble_eq_true rfl) (Nat.le_of_ble_eq_true rfl) (Nat.le_of_ble_eq_true rfl)) dX9_fitsArriving_49 (fun x49 hx49 => ?_)
    refine g_if_eq (tgt := 70) hC dX9_fitsArriving_52 (by decide) ⟨by omega, by omega⟩ (fun h52 => ?_) (fun h52 => ?_)
    · refine g_iconst hC dX9_fitsArriving_70 ?_
      refine g_zret hC hI rfl (by decide +kernel) dX9_fitsArriving_71 (Nat.le_of_ble_eq_true rfl) (Nat.le_of_ble_eq_true rfl) ⟨rfl, rfl, rfl, _, rfl, ?_⟩
      rw [f1 (by omega)]
      first
      | (rcases hx60 with ⟨w1, w2⟩ | ⟨w1, w2⟩
         · first | (exfalso; omega) | exact Or.inl ⟨rfl, by omega, w2⟩
         · first | (exfalso; omega) | exact Or.inr ⟨rfl, fun w => w2 w.2⟩)
      | exact Or.inr ⟨rfl, fun w => absurd w.1 (by omega)⟩
    · refine g_aload_n hC dX9_fitsArriving_55 rfl ?_
      refine g_getR hC fdX9_19 (by assumption) (by assumption) dX9_fitsArriving_56 ?_
      refine g_iload_n hC dX9_fitsArriving_59 rfl ?_
      refine g_VP hC (kX7_canTakeOver (gl X) (gD X) (gac X) (A 4) (A 5) sa ra ss v hR i_p) cvX7_canTakeOver lkX9_249 (by assumption) rfl rfl (Nat.le_of_ble_eq_true rfl) (hI.fit (Nat.le_of_ble_eq_true rfl) (Nat.le_of_ble_eq_true rfl) (Nat.le_of_ble_eq_true rfl)) dX9_fitsArriving_60 (fun x60 hx60 => ?_)
      refine g_if_eq (tgt := 70) hC dX9_fitsArriving_63 (by decide) ⟨by omega, by omega⟩ (fun h63 => ?_) (fun h63 => ?_)
      · refine g_iconst hC dX9_fitsArriving_70 ?_
        refine g_zret hC hI rfl (by decide +kernel) dX9_fitsArriving_71 (Nat.le_of_ble_eq_true rfl) (Nat.le_of_ble_eq_true rfl) ⟨rfl, rfl, rfl, _, rfl, ?_⟩
        rw [f1 (by omega)]
        first
        | (rcases hx60 with ⟨w1, w2⟩ | ⟨w1, w2⟩
           · first | (exfalso; omega) | exact Or.inl ⟨rfl, by omega, w2⟩
           · first | (exfalso; omega) | exact Or.inr ⟨rfl, fun w => w2 w.2⟩)
        | exact Or.inr ⟨rfl, fun w => absurd w.1 (by omega)⟩
      · refine g_iconst hC dX9_fitsArriving_66 ?_
        refine g_goto (tgt := 71) hC dX9_fitsArriving_67 (by decide) ?_
        refine g_zret hC hI rfl (by decide +kernel) dX9_fitsArriving_71 (Nat.le_of_ble_eq_true rfl) (Nat.le_of_ble_eq_true rfl) ⟨rfl, rfl, rfl, _, rfl, ?_⟩
        rw [f1 (by omega)]
        first
        | (rcases hx60 with ⟨w1, w2⟩ | ⟨w1, w2⟩
           · first | (exfalso; omega) | exact Or.inl ⟨rfl, by omega, w2⟩
           · first | (exfalso; omega) | exact Or.inr ⟨rfl, fun w => w2 w.2⟩)
        | exact Or.inr ⟨rfl, fun w => absurd w.1 (by omega)⟩
  · refine g_tableIn (tgt := 72) hC dX9_fitsArriving_7 (2) s7 ⟨by decide, by decide⟩ (by decide) (by decide) rfl (by decide) ?_
    refine g_iload_n hC dX9_fitsArriving_72 rfl ?_
    refine g_iconst hC dX9_fitsArriving_73 ?_
    refine g_icmp_gt (tgt := 81) hC dX9_fitsArriving_74 (by decide) ⟨by omega, by omega⟩ ⟨by omega, by omega⟩ (fun h74 => ?_) (fun h74 => ?_)
    · refine g_iconst hC dX9_fitsArriving_81 ?_
      refine g_zret hC hI rfl (by decide +kernel) dX9_fitsArriving_82 (Nat.le_of_ble_eq_true rfl) (Nat.le_of_ble_eq_true rfl) ⟨rfl, rfl, rfl, _, rfl, ?_⟩
      rw [f2 (by omega)]
      omega
    · refine g_iconst hC dX9_fitsArriving_77 ?_
      refine g_goto (tgt := 82) hC dX9_fitsArriving_78 (by decide) ?_
      refine g_zret hC hI rfl (by decide +kernel) dX9_fitsArriving_82 (Nat.le_of_ble_eq_true rfl) (Nat.le_of_ble_eq_true rfl) ⟨rfl, rfl, rfl, _, rfl, ?_⟩
      rw [f2 (by omega)]
      omega
  · refine g_tableIn (tgt := 83) hC dX9_fitsArriving_7 (3) s7 ⟨by decide, by decide⟩ (by decide) (by decide) rfl (by decide) ?_
    refine g_iload_n hC dX9_fitsArriving_83 rfl ?_
    refine g_bipush hC dX9_fitsArriving_84 (by decide +kernel) ?_
    refine g_icmp_gt (tgt := 93) hC dX9_fitsArriving_86 (by decide) ⟨by omega, by omega⟩ ⟨by omega, by omega⟩ (fun h86 => ?_) (fun h86 => ?_)
    · refine g_iconst hC dX9_fitsArriving_93 ?_
      refine g_zret hC hI rfl (by decide +kernel) dX9_fitsArriving_94 (Nat.le_of_ble_eq_true rfl) (Nat.le_of_ble_eq_true rfl) ⟨rfl, rfl, rfl, _, rfl, ?_⟩
      rw [f3 (by omega)]
      omega
    · refine g_iconst hC dX9_fitsArriving_89 ?_
      refine g_goto (tgt := 94) hC dX9_fitsArriving_90 (by decide) ?_
      refine g_zret hC hI rfl (by decide +kernel) dX9_fitsArriving_94 (Nat.le_of_ble_eq_true rfl) (Nat.le_of_ble_eq_true rfl) ⟨rfl, rfl, rfl, _, rfl, ?_⟩
      rw [f3 (by omega)]
      omega
  · refine g_tableOut (tgt := 95) hC dX9_fitsArriving_7 ⟨by omega, by omega⟩ s7 (by decide) ?_
    refine g_iconst hC dX9_fitsArriving_95 ?_
    refine g_zret hC hI rfl (by decide +kernel) dX9_fitsArriving_96 (Nat.le_of_ble_eq_true rfl) (Nat.le_of_ble_eq_true rfl) ⟨rfl, rfl, rfl, _, rfl, ?_⟩
    exact Or.inl ⟨rfl, ft (by omega)⟩
set_option maxHeartbeats 4000000 in
set_option maxRecDepth 100000 in
theorem kX9_isArrivingWhole (lc : Launch) (D : va_G) (ac : Nat → ClassId) {sh : Nat → Nat × Nat} {rf : Nat → Nat → Option Nat} {mem : Nat → Nat → Int} (G : Nat → Prop) (x : Nat) (A la l0 l1 l2 sa ra : Nat → Nat) (rp ex ar : List Int) (ms : List (Option MemT)) (ss : List (Option SetT)) (ch : Lns) (ds : Dfs) (lk : Nat) (g y z : Int) (hW : WXa G sh rf mem x A la l0 l1 l2 sa ra rp ms ss ch ds lk ex ar g y z) : gMet lc D ac mX9_isArrivingWhole 6 [.ref x] 0 0 sh rf mem (pP sh rf mem (fun r => (r = 1 ∧ whP ar) ∨ (r = 0 ∧ ¬ whP ar))) := by
  refine gMet.mk (by decide) (by intro v hv; simp at hv; (try rcases hv with rfl) <;> rfl) (Nat.le_of_ble_eq_true rfl) (fun X hC hI => ?_)
  show gG X sh rf mem 0 0 0 [some (.ref x), none] []
  have hW9 := hW
  obtain ⟨⟨ho, r0, r1, r2, r3, r4, r5, r6⟩, ⟨hL, hLv⟩, hR, ⟨hCt, hCo, hCi, hCv⟩, ⟨hMo, hMv, hMl, hMk⟩, ⟨hEo, hEv⟩, ⟨hAo, hAv⟩, ⟨hSo, hS0, hS1, hS2, hSg, hSh, hSy⟩, hD, hG⟩ := hW
  have hLo := hL.1
  have hRo := hR.1
  have hTo := hCt.1
  have hMo1 := hMo.1
  have hEo1 := hEo.1
  have hAo1 := hAo.1
  have al := hAv.2.1
  refine g_aload_n hC dX9_isArrivingWhole_0 rfl ?_
  refine g_getR hC fdX9_44 (by assumption) (by assumption) dX9_isArrivingWhole_1 ?_
  refine g_VP hC (kX5_size (gl X) (gD X) (gac X) (A 17) (A 18) ar hAo hAv) cvX5_size lkX9_190 (by assumption) rfl rfl (Nat.le_of_ble_eq_true rfl) (hI.fit (Nat.le_of_ble_eq_true rfl) (Nat.le_of_ble_eq_true rfl) (Nat.le_of_ble_eq_true rfl)) dX9_isArrivingWhole_4 (fun x4 hx4 => ?_)
  subst hx4
  refine g_istore_n hC 1 rfl dX9_isArrivingWhole_7 (Nat.le_of_ble_eq_true rfl) ?_
  dsimp only [List.set]
  refine g_iload_n hC dX9_isArrivingWhole_8 rfl ?_
  refine g_iconst hC dX9_isArrivingWhole_9 ?_
  refine g_icmp_lt (tgt := 33) hC dX9_isArrivingWhole_10 (by decide) ⟨by omega, by omega⟩ ⟨by omega, by omega⟩ (fun h10 => ?_) (fun h10 => ?_)
  · refine g_iconst hC dX9_isArrivingWhole_33 ?_
    refine g_zret hC hI rfl (by decide +kernel) dX9_isArrivingWhole_34 (Nat.le_of_ble_eq_true rfl) (Nat.le_of_ble_eq_true rfl) ⟨rfl, rfl, rfl, _, rfl, ?_⟩
    unfold whP
    omega
  · refine g_iload_n hC dX9_isArrivingWhole_13 rfl ?_
    refine g_iconst hC dX9_isArrivingWhole_14 ?_
    refine g_iconst hC dX9_isArrivingWhole_15 ?_
    refine g_aload_n hC dX9_isArrivingWhole_16 rfl ?_
    refine g_getR hC fdX9_44 (by assumption) (by assumption) dX9_isArrivingWhole_17 ?_
    refine g_iconst hC dX9_isArrivingWhole_20 ?_
    refine g_VP hC (kX5_valueAt (gl X) (gD X) (gac X) (A 17) (A 18) ar 3 hAo hAv ⟨by omega, by omega⟩) cvX5_valueAt lkX9_252 (by assumption) rfl rfl (Nat.le_of_ble_eq_true rfl) (hI.fit (Nat.le_of_ble_eq_true rfl) (Nat.le_of_ble_eq_true rfl) (Nat.le_of_ble_eq_true rfl)) dX9_isArrivingWhole_21 (fun x21 hx21 => ?_)
    obtain rfl : x21 = ar.getD 3 0 := by
      rcases hx21 with ⟨-, -, ⟨-, w⟩ | ⟨w, -⟩⟩
      · exact w
      · omega
    obtain ⟨y1, y2, -⟩ := hx21
    refine g_imul hC dX9_isArrivingWhole_24 ?_
    refine g_iadd hC dX9_isArrivingWhole_25 ?_
    refine g_icmp_lt (tgt := 33) hC dX9_isArrivingWhole_26 (by decide) ⟨by omega, by omega⟩ ⟨by omega, by omega⟩ (fun h26 => ?_) (fun h26 => ?_)
    · refine g_iconst hC dX9_isArrivingWhole_33 ?_
      refine g_zret hC hI rfl (by decide +kernel) dX9_isArrivingWhole_34 (Nat.le_of_ble_eq_true rfl) (Nat.le_of_ble_eq_true rfl) ⟨rfl, rfl, rfl, _, rfl, ?_⟩
      unfold whP
      omega
    · refine g_iconst hC dX9_isArrivingWhole_29 ?_
      refine g_goto (tgt := 34) hC dX9_isArrivingWhole_30 (by decide) ?_
      refine g_zret hC hI rfl (by decide +kernel) dX9_isArrivingWhole_34 (Nat.le_of_ble_eq_true rfl) (Nat.le_of_ble_eq_true rfl) ⟨rfl, rfl, rfl, _, rfl, ?_⟩
      unfold whP
      omega
section IM
variable {ss : List (Option SetT)} {ar : List Int} {v : Int}
theorem arI_lt (h : arI ar) : ar.length < 244 := by
  have h2 := h.2
  by_cases w : 4 ≤ ar.length
  · have := h2 w; omega
  · omega
theorem getD_snd {i : Nat} : (ar ++ [v]).getD i 0 = if i = ar.length then v else ar.getD i 0 := by
  by_cases h : i = ar.length
  · subst h
    rw [if_pos rfl]; exact getD_last
  · rw [if_neg h]
    by_cases h2 : i < ar.length
    · exact getD_app h2
    · rw [getD_out (by simp; omega), getD_out (by omega)]
theorem arI_app (h : arI ar) (hf : fitP ss ar v) (h0 : 0 ≤ v) : (2 ≤ (ar ++ [v]).length → 0 ≤ (ar ++ [v]).getD 1 0 ∧ (ar ++ [v]).getD 1 0 < 100) ∧ (4 ≤ (ar ++ [v]).length → 0 ≤ (ar ++ [v]).getD 3 0 ∧ (ar ++ [v]).getD 3 0 ≤ 60) := by
  rw [getD_snd, getD_snd, List.length_append, List.length_singleton]
  refine ⟨fun w => ?_, fun w => ?_⟩
  · by_cases e : 1 = ar.length
    · rw [if_pos e]; exact (hf.2.1 e.symm).1
    · rw [if_neg e]; exact h.1 (by omega)
  · by_cases e : 3 = ar.length
    · rw [if_pos e]; exact ⟨h0, hf.2.2.2 e.symm⟩
    · rw [if_neg e]; exact ⟨(h.2 (by omega)).1, (h.2 (by omega)).2.1⟩
theorem arI_more (h : arI ar) (hf : fitP ss ar v) (h0 : 0 ≤ v) (hw : ¬ whP (ar ++ [v])) : arI (ar ++ [v]) := by
  obtain ⟨k1, k2⟩ := arI_app h hf h0
  refine ⟨k1, fun w => ⟨(k2 w).1, (k2 w).2, ?_⟩⟩
  apply Classical.byContradiction
  intro q
  exact hw ⟨w, by omega⟩
theorem arI_nil : arI [] := ⟨fun h => absurd h (by decide), fun h => absurd h (by decide)⟩
end IM
set_option maxHeartbeats 4000000 in
set_option maxRecDepth 100000 in
theorem kX9_import0 (lc : Launch) (D : va_G) (ac : Nat → ClassId) {sh : Nat → Nat × Nat} {rf : Nat → Nat → Option Nat} {mem : Nat → Nat → Int} (G : Nat → Prop) (x : Nat) (A la l0 l1 l2 sa ra : Nat → Nat) (rp ex ar : List Int) (ms : List (Option MemT)) (ss : List (Option SetT)) (ch : Lns) (ds : Dfs) (lk : Nat) (g y z : Int) (b : Int) (hW : WXa G sh rf mem x A la l0 l1 l2 sa ra rp ms ss ch ds lk ex ar g y z) (h_a : arI ar) : gMet lc D ac mX9_import0 7 [.ref x, .int (iI b)] 2 65 sh rf mem (pA (fun r sh1 rf1 mem1 => (¬ fitP ss ar (b % 256) ∧ r = -1 ∧ WN G sh rf mem sh1 rf1 mem1 x A rp ms ss ch ds lk ex [] g y z) ∨ (fitP ss ar (b % 256) ∧ ¬ whP (ar ++ [b % 256]) ∧ r = 0 ∧ WN G sh rf mem sh1 rf1 mem1 x A rp ms ss ch ds lk ex (ar ++ [b % 256]) g y z) ∨ (fitP ss ar (b % 256) ∧ whP (ar ++ [b % 256]) ∧ ¬ canT ss ((ar ++ [b % 256]).getD 1 0) ∧ r = -1 ∧ WN G sh rf mem sh1 rf1 mem1 x A rp ms ss ch ds lk ex [] g y z) ∨ (fitP ss ar (b % 256) ∧ whP (ar ++ [b % 256]) ∧ canT ss ((ar ++ [b % 256]).getD 1 0) ∧ r = toN ss (ar ++ [b % 256]) ∧ WN G sh rf mem sh1 rf1 mem1 x A rp ms (toS ss (ar ++ [b % 256])) ch ds lk ex [] g y z))) := by
  refine gMet.mk (by decide) (by intro v hv; simp at hv; (try rcases hv with rfl | rfl) <;> rfl) (Nat.le_of_ble_eq_true rfl) (fun X hC hI => ?_)
  show gG X sh rf mem 0 0 0 [some (.ref x), some (.int (iI b)), none, none] []
  have hW9 := hW
  obtain ⟨⟨ho, r0, r1, r2, r3, r4, r5, r6⟩, ⟨hL, hLv⟩, hR, ⟨hCt, hCo, hCi, hCv⟩, ⟨hMo, hMv, hMl, hMk⟩, ⟨hEo, hEv⟩, ⟨hAo, hAv⟩, ⟨hSo, hS0, hS1, hS2, hSg, hSh, hSy⟩, hD, hG⟩ := hW
  have hLo := hL.1
  have hRo := hR.1
  have hTo := hCt.1
  have hMo1 := hMo.1
  have hEo1 := hEo.1
  have hAo1 := hAo.1
  have al := arI_lt h_a
  refine g_iload_n hC dX9_import0_0 rfl ?_
  refine g_sipush hC dX9_import0_1 (by decide +kernel) ?_
  refine g_iand hC dX9_import0_4 ?_
  rw [iI_and255]
  refine g_istore_n hC 2 rfl dX9_import0_5 (Nat.le_of_ble_eq_true rfl) ?_
  dsimp only [List.set]
  refine g_aload_n hC dX9_import0_6 rfl ?_
  refine g_iload_n hC dX9_import0_7 rfl ?_
  refine g_VP hC (kX9_fitsArriving (gl X) (gD X) (gac X) G x A la l0 l1 l2 sa ra rp ex ar ms ss ch ds lk g y z _ hW9 ⟨by omega, by omega⟩) cvX9_fitsArriving lkX9_201 (by assumption) rfl rfl (Nat.le_of_ble_eq_true rfl) (hI.fit (Nat.le_of_ble_eq_true rfl) (Nat.le_of_ble_eq_true rfl) (Nat.le_of_ble_eq_true rfl)) dX9_import0_8 (fun x8 hx8 => ?_)
  refine g_if_ne (tgt := 23) hC dX9_import0_11 (by decide) ⟨by omega, by omega⟩ (fun h11 => ?_) (fun h11 => ?_)
  · refine g_aload_n hC dX9_import0_23 rfl ?_
    refine g_getR hC fdX9_44 (by assumption) (by assumption) dX9_import0_24 ?_
    refine g_iload_n hC dX9_import0_27 rfl ?_
    refine g_VV hC (kX5_append (gl X) (gD X) (gac X) (A 17) (A 18) ar _ hAo hAv) cvX5_append lkX9_205 (by assumption) rfl rfl (Nat.le_of_ble_eq_true rfl) (hI.fit (Nat.le_of_ble_eq_true rfl) (Nat.le_of_ble_eq_true rfl) (Nat.le_of_ble_eq_true rfl)) dX9_import0_28 (fun mem28 hx28 => ?_)
    rw [if_pos al, show b % 256 % 256 = b % 256 by omega] at hx28
    obtain ⟨hW2, hK2⟩ := opA hW9 hx28.1 hx28.2
    have fp : fitP ss ar (b % 256) := by
      rcases hx8 with ⟨-, w⟩ | ⟨w, -⟩
      · exact w
      · omega
    obtain ⟨k1, k2⟩ := arI_app h_a fp (by omega)
    refine g_aload_n hC dX9_import0_31 rfl ?_
    refine g_VP hC (kX9_isArrivingWhole (gl X) (gD X) (gac X) G x A la l0 l1 l2 sa ra rp ex _ ms ss ch ds lk g y z hW2) cvX9_isArrivingWhole lkX9_208 (by assumption) rfl rfl (Nat.le_of_ble_eq_true rfl) (hI.fit (Nat.le_of_ble_eq_true rfl) (Nat.le_of_ble_eq_true rfl) (Nat.le_of_ble_eq_true rfl)) dX9_import0_32 (fun x32 hx32 => ?_)
    refine g_if_ne (tgt := 40) hC dX9_import0_35 (by decide) ⟨by omega, by omega⟩ (fun h35 => ?_) (fun h35 => ?_)
    · have wh : whP (ar ++ [b % 256]) := by
        rcases hx32 with ⟨-, w⟩ | ⟨w, -⟩
        · exact w
        · omega
      have w1 := wh.1
      refine g_aload_n hC dX9_import0_40 rfl ?_
      refine g_getR hC fdX9_19 (by assumption) (by assumption) dX9_import0_41 ?_
      refine g_aload_n hC dX9_import0_44 rfl ?_
      refine g_getR hC fdX9_44 (by assumption) (by assumption) dX9_import0_45 ?_
      refine g_VA hC (kX7_takeOver (gl X) (gD X) (gac X) (A 4) (A 5) sa ra ss (A 17) (A 18) _ hW2.2.2.1 hW2.2.2.2.2.2.2.1.1 hW2.2.2.2.2.2.2.1.2 ⟨(k1 (by omega)).1, (k1 (by omega)).2, (k2 w1).2⟩) cvX7_takeOver lkX9_212 (by assumption) rfl rfl (Nat.le_of_ble_eq_true rfl) (hI.fit (Nat.le_of_ble_eq_true rfl) (Nat.le_of_ble_eq_true rfl) (Nat.le_of_ble_eq_true rfl)) dX9_import0_48 (fun x48 sh48 rf48 mem48 hx48 => ?_)
      have hx49 : (∃ la l0 l1 l2 sa1 ra1, WXa G sh48 rf48 mem48 x A la l0 l1 l2 sa1 ra1 rp ms (if x48 = -1 then ss else toS ss (ar ++ [b % 256])) ch ds lk ex (ar ++ [b % 256]) g y z) ∧ (∀ b, G b → Un sh rf mem28 sh48 rf48 mem48 b) ∧ ((¬ canT ss ((ar ++ [b % 256]).getD 1 0) ∧ x48 = -1) ∨ (canT ss ((ar ++ [b % 256]).getD 1 0) ∧ x48 = toN ss (ar ++ [b % 256]) ∧ x48 ≠ -1)) := by
        rcases hx48 with ⟨c1, c2, c3, c4, c5⟩ | ⟨c1, c2, ⟨sa1, ra1, c3, c4⟩, c5⟩
        · subst c3 c4 c5
          rw [if_pos c2]
          exact ⟨⟨la, l0, l1, l2, sa, ra, hW2⟩, fun _ _ => Un.rf0, Or.inl ⟨c1, c2⟩⟩
        · have c6 : x48 ≠ -1 := by
            rw [c2, toN]
            split <;> omega
          rw [if_neg c6]
          obtain ⟨g1, g2⟩ := opR hW2 c3 c5 c4
          exact ⟨⟨la, l0, l1, l2, sa1, ra1, g1⟩, g2, Or.inr ⟨c1, c2, c6⟩⟩
      obtain ⟨⟨ja, j0, j1, j2, ta, ua, hW3⟩, hK3, hx50⟩ := hx49
      have T1 := hW3.1.1
      have T2 := hW3.1.2.2.2.2.2.2.1
      have T3 := hW3.2.2.2.2.2.2.1.1.1
      refine g_istore_n hC 3 rfl dX9_import0_51 (Nat.le_of_ble_eq_true rfl) ?_
      dsimp only [List.set]
      refine g_aload_n hC dX9_import0_52 rfl ?_
      refine g_getR hC fdX9_44 (by assumption) (by assumption) dX9_import0_53 ?_
      refine g_VV hC (kX5_clear (gl X) (gD X) (gac X) (A 17) (A 18) _ hW3.2.2.2.2.2.2.1.1 hW3.2.2.2.2.2.2.1.2) cvX5_clear lkX9_204 (by assumption) rfl rfl (Nat.le_of_ble_eq_true rfl) (hI.fit (Nat.le_of_ble_eq_true rfl) (Nat.le_of_ble_eq_true rfl) (Nat.le_of_ble_eq_true rfl)) dX9_import0_56 (fun mem56 hx56 => ?_)
      refine g_iload_n hC dX9_import0_59 rfl ?_
      refine g_iret hC hI rfl dX9_import0_60 (Nat.le_of_ble_eq_true rfl) (Nat.le_of_ble_eq_true rfl) ⟨_, rfl, ?_⟩
      right; right
      have hK4 : ∀ b, G b → Un sh rf mem sh48 rf48 mem48 b := fun b hb => ⟨(hK3 b hb).1.trans (hK2 b hb).1, (hK3 b hb).2.1.trans (hK2 b hb).2.1, (hK3 b hb).2.2.trans (hK2 b hb).2.2⟩
      have fin := WN.of2 hK4 (opA hW3 hx56.1 hx56.2)
      rcases hx50 with ⟨c1, c2⟩ | ⟨c1, c2, c3⟩
      · rw [if_pos c2] at fin
        exact Or.inl ⟨fp, wh, c1, c2, fin⟩
      · rw [if_neg c3] at fin
        exact Or.inr ⟨fp, wh, c1, c2, fin⟩
    · refine g_iconst hC dX9_import0_38 ?_
      refine g_iret hC hI rfl dX9_import0_39 (Nat.le_of_ble_eq_true rfl) (Nat.le_of_ble_eq_true rfl) ⟨_, rfl, ?_⟩
      right; left
      refine ⟨fp, ?_, rfl, WN.of ⟨hW2, hK2⟩⟩
      rcases hx32 with ⟨w, -⟩ | ⟨-, w⟩
      · omega
      · exact w
  · refine g_aload_n hC dX9_import0_14 rfl ?_
    refine g_getR hC fdX9_44 (by assumption) (by assumption) dX9_import0_15 ?_
    refine g_VV hC (kX5_clear (gl X) (gD X) (gac X) (A 17) (A 18) ar hAo hAv) cvX5_clear lkX9_204 (by assumption) rfl rfl (Nat.le_of_ble_eq_true rfl) (hI.fit (Nat.le_of_ble_eq_true rfl) (Nat.le_of_ble_eq_true rfl) (Nat.le_of_ble_eq_true rfl)) dX9_import0_18 (fun mem18 hx18 => ?_)
    refine g_iconst hC dX9_import0_21 ?_
    refine g_iret hC hI rfl dX9_import0_22 (Nat.le_of_ble_eq_true rfl) (Nat.le_of_ble_eq_true rfl) ⟨_, rfl, ?_⟩
    left
    obtain ⟨k1, k2⟩ := hx18
    refine ⟨?_, rfl, WN.of (opA hW9 k1 k2)⟩
    rcases hx8 with ⟨w, -⟩ | ⟨-, w⟩
    · omega
    · exact w
