set_option maxHeartbeats 4000000 in
set_option maxRecDepth 100000 in
theorem law_loop {X : gX} (hC : gC X cL_law RL) (hR : gRm X = room_1) {b L : Nat} {xs : Nat → Int32} (hB : gScr X b L xs) (hL : L ≤ 2560) (hO : OctC X) (hE : ∀ (sh : Nat → Nat × Nat) (rf : Nat → Nat → Option Nat) (mem : Nat → Nat → Int) (cells slots : Nat) (lv : List (Option Value)), cells ≤ 601024 → slots ≤ 7293034 → gG X sh rf mem cells slots 1212 lv [.int (iI 1)]) (G : Nat → Prop) (x m o : Nat) (A : Nat → Nat) : ∀ (t n i : Nat) (sh : Nat → Nat × Nat) (rf : Nat → Nat → Option Nat) (mem : Nat → Nat → Int) (cells slots : Nat) (B : Nat → Nat) (rp ex ar : List Int) (ms : List (Option MemT)) (ss : List (Option SetT)) (ch : Lns) (ds : Dfs) (lk : Nat) (g y z : Int) o5 o6, i = 5 * n → i ≤ L + 4 → L + 4 < i + 5 * t → LSt G sh rf mem x m o A B rp ms ss ch ds lk ex ar g y z → cells ≤ 100 + 4 * ms.length + 10 * n → slots ≤ 40000 + 364 * ms.length + 1000 * n → gG X sh rf mem cells slots 23 [some (.ref b), some (.ref x), some (.ref m), some (.ref o), some (.int (iI i)), o5, o6] [] := by
  intro t
  induction t with
  | zero => intro n i sh rf mem cells slots B rp ex ar ms ss ch ds lk g y z o5 o6 c1 c2 c3; omega
  | succ t ih =>
    intro n i sh rf mem cells slots B rp ex ar ms ss ch ds lk g y z o5 o6 c1 c2 c3 hS c5 c6
    have kM : ms.length ≤ 80 := by
      obtain ⟨la, l0, l1, l2, sa, ra, hW⟩ := hS.1
      exact hW.ok.2.1.1
    have KK : (i : Int) + 5 ≤ L → ∀ (sh1 : Nat → Nat × Nat) (rf1 : Nat → Nat → Option Nat) (mem1 : Nat → Nat → Int) (cells1 slots1 : Nat) (B1 : Nat → Nat) (rp1 ex1 ar1 : List Int) (ms1 : List (Option MemT)) (ss1 : List (Option SetT)) (ch1 : Lns) (ds1 : Dfs) (lk1 : Nat) (g1 y1 z1 : Int) o5 o6, LSt G sh1 rf1 mem1 x m o A B1 rp1 ms1 ss1 ch1 ds1 lk1 ex1 ar1 g1 y1 z1 → cells1 + 4 * ms.length ≤ cells + 4 * ms1.length + 10 → slots1 + 364 * ms.length ≤ slots + 364 * ms1.length + 1000 → gG X sh1 rf1 mem1 cells1 slots1 1205 [some (.ref b), some (.ref x), some (.ref m), some (.ref o), some (.int (iI i)), o5, o6] [] := by
      intro hi sh1 rf1 mem1 cells1 slots1 B1 rp1 ex1 ar1 ms1 ss1 ch1 ds1 lk1 g1 y1 z1 o5 o6 h1 h2 h3
      refine g_iinc hC dL_law_1205 rfl ?_
      dsimp only [List.set]
      refine g_goto (tgt := 23) hC dL_law_1208 (by decide) ?_
      exact ih (n + 1) (i + 5) sh1 rf1 mem1 cells1 slots1 B1 rp1 ex1 ar1 ms1 ss1 ch1 ds1 lk1 g1 y1 z1 _ _ (by omega) (by omega) (by omega) h1 (by omega) (by omega)
    obtain ⟨a0, ea0⟩ : ∃ a, a = (xs (i : Int).toNat).toInt := ⟨_, rfl⟩
    refine g_iload hC dL_law_23 rfl ?_
    refine g_aload_n hC dL_law_25 rfl ?_
    refine g_slen hC hB dL_law_26 ?_
    refine g_iconst hC dL_law_27 ?_
    refine g_isub hC dL_law_28 ?_
    refine g_icmp_gt (tgt := 1211) hC dL_law_29 (by decide) ⟨by omega, by omega⟩ ⟨by omega, by omega⟩ (fun h29 => ?_) (fun h29 => ?_)
    · refine g_iconst hC dL_law_1211 ?_
      exact hE _ _ _ _ _ _ (by omega) (by omega)
    · replace KK := KK (by omega)
      refine g_aload_n hC dL_law_32 rfl ?_
      refine g_iload hC dL_law_33 rfl ?_
      refine g_sld hC hB (by omega) (by omega) hL dL_law_35 ?_
      rw [← ea0]
      refine g_bipush hC dL_law_36 (by decide +kernel) ?_
      refine g_iand hC dL_law_38 ?_
      refine g_topI (iI_and31 _) ?_
      rcases (show a0 % 32 = 0 ∨ a0 % 32 = 1 ∨ a0 % 32 = 2 ∨ a0 % 32 = 3 ∨ a0 % 32 = 4 ∨ a0 % 32 = 5 ∨ a0 % 32 = 6 ∨ a0 % 32 = 7 ∨ a0 % 32 = 8 ∨ a0 % 32 = 9 ∨ a0 % 32 = 10 ∨ a0 % 32 = 11 ∨ a0 % 32 = 12 ∨ a0 % 32 = 13 ∨ a0 % 32 = 14 ∨ a0 % 32 = 15 ∨ a0 % 32 = 16 ∨ a0 % 32 = 17 ∨ a0 % 32 = 18 ∨ a0 % 32 = 19 ∨ a0 % 32 = 20 ∨ a0 % 32 = 21 ∨ a0 % 32 = 22 ∨ a0 % 32 = 23 ∨ a0 % 32 = 24 ∨ a0 % 32 = 25 ∨ a0 % 32 = 26 ∨ a0 % 32 = 27 ∨ (a0 % 32 < 0 ∨ 27 < a0 % 32) by omega) with s39 | s39 | s39 | s39 | s39 | s39 | s39 | s39 | s39 | s39 | s39 | s39 | s39 | s39 | s39 | s39 | s39 | s39 | s39 | s39 | s39 | s39 | s39 | s39 | s39 | s39 | s39 | s39 | s39
      · refine g_tableIn (tgt := 164) hC dL_law_39 (0) s39 ⟨by decide, by decide⟩ (by decide) (by decide) rfl (by decide) ?_
        exact law_c0 hC hR hB hL hS (by omega) (by omega) (by omega) KK
      · refine g_tableIn (tgt := 205) hC dL_law_39 (1) s39 ⟨by decide, by decide⟩ (by decide) (by decide) rfl (by decide) ?_
        exact law_c1 hC hR hB hL hS (by omega) (by omega) (by omega) KK
      · refine g_tableIn (tgt := 242) hC dL_law_39 (2) s39 ⟨by decide, by decide⟩ (by decide) (by decide) rfl (by decide) ?_
        exact law_c2 hC hR hB hL hS (by omega) (by omega) (by omega) KK
      · refine g_tableIn (tgt := 289) hC dL_law_39 (3) s39 ⟨by decide, by decide⟩ (by decide) (by decide) rfl (by decide) ?_
        exact law_c3 hC hR hB hL hS (by omega) (by omega) (by omega) KK
      · refine g_tableIn (tgt := 350) hC dL_law_39 (4) s39 ⟨by decide, by decide⟩ (by decide) (by decide) rfl (by decide) ?_
        exact law_c4 hC hR hB hL hS (by omega) (by omega) (by omega) KK
      · refine g_tableIn (tgt := 411) hC dL_law_39 (5) s39 ⟨by decide, by decide⟩ (by decide) (by decide) rfl (by decide) ?_
        exact law_c5 hC hR hB hL hS (by omega) (by omega) (by omega) KK
      · refine g_tableIn (tgt := 448) hC dL_law_39 (6) s39 ⟨by decide, by decide⟩ (by decide) (by decide) rfl (by decide) ?_
        exact law_c6 hC hR hB hL hS (by omega) (by omega) (by omega) KK
      · refine g_tableIn (tgt := 485) hC dL_law_39 (7) s39 ⟨by decide, by decide⟩ (by decide) (by decide) rfl (by decide) ?_
        exact law_c7 hC hR hB hL hS (by omega) (by omega) (by omega) KK
      · refine g_tableIn (tgt := 510) hC dL_law_39 (8) s39 ⟨by decide, by decide⟩ (by decide) (by decide) rfl (by decide) ?_
        exact law_c8 hC hR hB hL hS (by omega) (by omega) (by omega) KK
      · refine g_tableIn (tgt := 545) hC dL_law_39 (9) s39 ⟨by decide, by decide⟩ (by decide) (by decide) rfl (by decide) ?_
        exact law_c9 hC hR hB hL hS (by omega) (by omega) (by omega) KK
      · refine g_tableIn (tgt := 570) hC dL_law_39 (10) s39 ⟨by decide, by decide⟩ (by decide) (by decide) rfl (by decide) ?_
        exact law_c10 hC hR hB hL hS (by omega) (by omega) (by omega) KK
      · refine g_tableIn (tgt := 623) hC dL_law_39 (11) s39 ⟨by decide, by decide⟩ (by decide) (by decide) rfl (by decide) ?_
        exact law_c11 hC hR hB hL hS (by omega) (by omega) (by omega) KK
      · refine g_tableIn (tgt := 660) hC dL_law_39 (12) s39 ⟨by decide, by decide⟩ (by decide) (by decide) rfl (by decide) ?_
        exact law_c12 hC hR hB hL hS (by omega) (by omega) (by omega) KK
      · refine g_tableIn (tgt := 685) hC dL_law_39 (13) s39 ⟨by decide, by decide⟩ (by decide) (by decide) rfl (by decide) ?_
        exact law_c13 hC hR hB hL hS (by omega) (by omega) (by omega) KK
      · refine g_tableIn (tgt := 722) hC dL_law_39 (14) s39 ⟨by decide, by decide⟩ (by decide) (by decide) rfl (by decide) ?_
        exact law_c14 hC hR hB hL hS (by omega) (by omega) (by omega) KK
      · refine g_tableIn (tgt := 759) hC dL_law_39 (15) s39 ⟨by decide, by decide⟩ (by decide) (by decide) rfl (by decide) ?_
        exact law_c15 hC hR hB hL hS (by omega) (by omega) (by omega) KK
      · refine g_tableIn (tgt := 820) hC dL_law_39 (16) s39 ⟨by decide, by decide⟩ (by decide) (by decide) rfl (by decide) ?_
        exact law_c16 hC hR hB hL hS (by omega) (by omega) (by omega) KK
      · refine g_tableIn (tgt := 845) hC dL_law_39 (17) s39 ⟨by decide, by decide⟩ (by decide) (by decide) rfl (by decide) ?_
        exact law_c17 hC hR hB hL hS (by omega) (by omega) (by omega) KK
      · refine g_tableIn (tgt := 870) hC dL_law_39 (18) s39 ⟨by decide, by decide⟩ (by decide) (by decide) rfl (by decide) ?_
        exact law_c18 hC hR hB hL hS (by omega) (by omega) (by omega) hO KK
      · refine g_tableIn (tgt := 926) hC dL_law_39 (19) s39 ⟨by decide, by decide⟩ (by decide) (by decide) rfl (by decide) ?_
        exact law_c19 hC hR hB hL hS (by omega) (by omega) (by omega) KK
      · refine g_tableIn (tgt := 953) hC dL_law_39 (20) s39 ⟨by decide, by decide⟩ (by decide) (by decide) rfl (by decide) ?_
        exact law_c20 hC hR hB hL hS (by omega) (by omega) (by omega) KK
      · refine g_tableIn (tgt := 990) hC dL_law_39 (21) s39 ⟨by decide, by decide⟩ (by decide) (by decide) rfl (by decide) ?_
        exact law_c21 hC hR hB hL hS (by omega) (by omega) (by omega) KK
      · refine g_tableIn (tgt := 1031) hC dL_law_39 (22) s39 ⟨by decide, by decide⟩ (by decide) (by decide) rfl (by decide) ?_
        exact law_c22 hC hR hB hL hS (by omega) (by omega) (by omega) KK
      · refine g_tableIn (tgt := 1044) hC dL_law_39 (23) s39 ⟨by decide, by decide⟩ (by decide) (by decide) rfl (by decide) ?_
        exact law_c23 hC hR hB hL hS (by omega) (by omega) (by omega) KK
      · refine g_tableIn (tgt := 1057) hC dL_law_39 (24) s39 ⟨by decide, by decide⟩ (by decide) (by decide) rfl (by decide) ?_
        exact law_c24 hC hR hB hL hS (by omega) (by omega) (by omega) KK
      · refine g_tableIn (tgt := 1094) hC dL_law_39 (25) s39 ⟨by decide, by decide⟩ (by decide) (by decide) rfl (by decide) ?_
        exact law_c25 hC hR hB hL hS (by omega) (by omega) (by omega) KK
      · refine g_tableIn (tgt := 1143) hC dL_law_39 (26) s39 ⟨by decide, by decide⟩ (by decide) (by decide) rfl (by decide) ?_
        exact law_c26 hC hR hB hL hS (by omega) (by omega) (by omega) KK
      · refine g_tableIn (tgt := 1180) hC dL_law_39 (27) s39 ⟨by decide, by decide⟩ (by decide) (by decide) rfl (by decide) ?_
        exact law_c27 hC hR hB hL hS (by omega) (by omega) (by omega) KK
      · refine g_tableOut (tgt := 1205) hC dL_law_39 ⟨by omega, by omega⟩ s39 (by decide) ?_
        exact KK sh rf mem cells slots B rp ex ar ms ss ch ds lk g y z _ _ hS (by omega) (by omega)
section GRW
variable {G : Nat → Prop} {sh sh1 sh2 : Nat → Nat × Nat} {rf rf1 rf2 : Nat → Nat → Option Nat} {mem mem1 mem2 : Nat → Nat → Int} {x q : Nat} {A la l0 l1 l2 sa ra : Nat → Nat} {rp ex ar : List Int} {ms : List (Option MemT)} {ss : List (Option SetT)} {ch : Lns} {ds : Dfs} {lk : Nat} {g y z : Int}
theorem un_new {s : Nat × Nat} (hq : (sh q).1 = 0) (e1 : sh1 = va_up sh q s) (e2 : rf1 = va_up rf q (fun _ => none)) (e3 : mem1 = va_up mem q (fun _ => 0)) (b : Nat) (hb : (sh b).1 ≠ 0) : Un sh rf mem sh1 rf1 mem1 b := by
  have hn : b ≠ q := fun e => hb (e ▸ hq)
  exact ⟨by rw [e1, va_up_ne _ _ hn], by rw [e2, va_up_ne _ _ hn], by rw [e3, va_up_ne _ _ hn]⟩
theorem WXa.grow {G' : Nat → Prop} (h : WXa (fun _ => False) sh rf mem x A la l0 l1 l2 sa ra rp ms ss ch ds lk ex ar g y z) (hu : ∀ b, (sh b).1 ≠ 0 → Un sh rf mem sh1 rf1 mem1 b) (hg : ∀ b, G' b → gsh (sh1 b)) (hf : ∀ b, G' b → (sh b).1 = 0) : WXa G' sh1 rf1 mem1 x A la l0 l1 l2 sa ra rp ms ss ch ds lk ex ar g y z := by
  have h9 := h
  obtain ⟨⟨ho, -⟩, ⟨hL, hLv⟩, hR, ⟨hCt, hCo, -, -⟩, ⟨hMo, -, -, -⟩, ⟨hEo, -⟩, ⟨hAo, -⟩, ⟨hSo, -⟩, -, -⟩ := h
  have nz : ∀ b c n, sh b = (c, n) → c ≠ 0 → ¬ ((sh b).1 = 0) := fun b c n e h0 q => by rw [e] at q; exact h0 q
  have ng : ∀ b c n, sh b = (c, n) → c ≠ 0 → ¬ G' b := fun b c n e h0 q => nz b c n e h0 (hf b q)
  have w := WXa.stand (sh1 := sh1) (rf1 := rf1) (mem1 := mem1) (Q := fun b => (sh b).1 = 0) h9 (fun b hb => hu b hb) (nz _ _ _ ho (by decide)) ⟨⟨nz _ _ _ hL.1 (by decide), nz _ _ _ hL.2.2.2.2.1 (by decide), nz _ _ _ hL.2.2.2.2.2.1 (by decide), nz _ _ _ hL.2.2.2.2.2.2 (by decide)⟩, fun i hi => by
    obtain ⟨k1, k2, k3, k4⟩ := rowsL hLv hi
    exact ⟨nz _ _ _ k1 (by decide), nz _ _ _ k2 (by decide), nz _ _ _ k3 (by decide), nz _ _ _ k4 (by decide)⟩⟩ ⟨⟨nz _ _ _ hR.1 (by decide), nz _ _ _ hR.2.2.1 (by decide)⟩, fun i hi => by
    obtain ⟨k1, k2⟩ := rowsR hR hi
    exact ⟨nz _ _ _ k1 (by decide), nz _ _ _ k2 (by decide)⟩⟩ ⟨nz _ _ _ hCt.1 (by decide), nz _ _ _ hCo.1 (by decide), nz _ _ _ hCo.2.2.2.2.1 (by decide), nz _ _ _ hCo.2.2.2.2.2.1 (by decide), nz _ _ _ hCo.2.2.2.2.2.2.1 (by decide)⟩ ⟨nz _ _ _ hMo.1 (by decide), nz _ _ _ hMo.2.2.2.2.1 (by decide), nz _ _ _ hMo.2.2.2.2.2.1 (by decide), nz _ _ _ hMo.2.2.2.2.2.2.1 (by decide)⟩ ⟨nz _ _ _ hEo.1 (by decide), nz _ _ _ hEo.2.2 (by decide)⟩ ⟨nz _ _ _ hAo.1 (by decide), nz _ _ _ hAo.2.2 (by decide)⟩ (nz _ _ _ hSo (by decide)) (fun b hb => hb.elim)
  obtain ⟨w1, w2, w3, w4, w5, w6, w7, w8, w9, -⟩ := w
  refine ⟨w1, w2, w3, w4, w5, w6, w7, w8, w9, hg, ng _ _ _ hL.2.2.2.2.2.2 (by decide), fun i hi => ?_, fun i hi => ?_, ng _ _ _ hCo.2.2.2.2.1 (by decide), ng _ _ _ hCo.2.2.2.2.2.1 (by decide), ng _ _ _ hMo.2.2.2.2.1 (by decide), ng _ _ _ hMo.2.2.2.2.2.1 (by decide), ng _ _ _ hMo.2.2.2.2.2.2.1 (by decide)⟩
  · obtain ⟨k1, k2, k3, k4⟩ := rowsL hLv hi
    exact ⟨ng _ _ _ k2 (by decide), ng _ _ _ k3 (by decide)⟩
  · obtain ⟨k1, k2⟩ := rowsR hR hi
    exact ng _ _ _ k2 (by decide)
end GRW
set_option maxHeartbeats 4000000 in
set_option maxRecDepth 100000 in
theorem law_body {X : gX} (hC : gC X cL_law RL) (hR : gRm X = room_1) {b L : Nat} {xs : Nat → Int32} (hB : gScr X b L xs) (hL : L ≤ 2560) (hO : OctC X) (hE : ∀ (sh : Nat → Nat × Nat) (rf : Nat → Nat → Option Nat) (mem : Nat → Nat → Int) (cells slots : Nat) (lv : List (Option Value)), cells ≤ 601024 → slots ≤ 7293034 → gG X sh rf mem cells slots 1212 lv [.int (iI 1)]) : gG X (fun _ => (0, 0)) (fun _ _ => none) (fun _ _ => 0) 0 0 0 [some (.ref b), none, none, none, none, none, none] [] := by
  obtain ⟨sh, esh⟩ : ∃ q : Nat → Nat × Nat, q = fun _ => (0, 0) := ⟨_, rfl⟩
  obtain ⟨rf, erf⟩ : ∃ q : Nat → Nat → Option Nat, q = fun _ _ => none := ⟨_, rfl⟩
  obtain ⟨mem, emem⟩ : ∃ q : Nat → Nat → Int, q = fun _ _ => 0 := ⟨_, rfl⟩
  rw [← esh, ← erf, ← emem]
  refine g_newN hC neL_8 (by rw [hR]; exact (Nat.le_of_ble_eq_true rfl)) (by rw [hR]; exact (Nat.le_of_ble_eq_true rfl)) dL_law_0 (fun q0 sh0 rf0 mem0 hq0 esh0 erf0 emem0 => ?_)
  have s0 := sh_new esh0
  refine g_dup hC dL_law_3 rfl ?_
  refine g_IU hC (kX9_init (gl X) (gD X) (gac X) (fun _ => False) q0 s0 (fun b hb => hb.elim)) ciX9_init lkL_15 rfl rfl (Nat.le_of_ble_eq_true rfl) (gfitL hR (by decide) (by decide) (by decide)) dL_law_4 (fun sh4 rf4 mem4 hx4 => ?_)
  obtain ⟨A, ⟨la, l0, l1, l2, sa, ra, hW⟩, -⟩ := hx4
  refine g_astore_n hC 1 rfl dL_law_7 (Nat.le_of_ble_eq_true rfl) ?_
  dsimp only [List.set]
  refine g_newN hC neL_16 (by rw [hR]; exact (Nat.le_of_ble_eq_true rfl)) (by rw [hR]; exact (Nat.le_of_ble_eq_true rfl)) dL_law_8 (fun q8 sh8 rf8 mem8 hq8 esh8 erf8 emem8 => ?_)
  have s8 := sh_new esh8
  refine g_dup hC dL_law_11 rfl ?_
  refine g_IU hC (kX10_init (gl X) (gD X) (gac X) q8 s8 (by rw [emem8, va_up_self])) ciX10_init lkL_18 rfl rfl (Nat.le_of_ble_eq_true rfl) (gfitL hR (by decide) (by decide) (by decide)) dL_law_12 (fun sh12 rf12 mem12 hx12 => ?_)
  obtain ⟨B, hM, hV, hfr, hun⟩ := hx12
  refine g_astore_n hC 2 rfl dL_law_15 (Nat.le_of_ble_eq_true rfl) ?_
  dsimp only [List.set]
  refine g_iconst hC dL_law_16 ?_
  refine g_newl hC (by rw [hR]; exact (Nat.le_of_ble_eq_true rfl)) (by rw [hR]; exact (Nat.le_of_ble_eq_true rfl)) dL_law_17 (fun q17 sh17 rf17 mem17 hq17 esh17 erf17 emem17 => ?_)
  refine g_astore_n hC 3 rfl dL_law_19 (Nat.le_of_ble_eq_true rfl) ?_
  dsimp only [List.set]
  have u8 := un_new (rf := rf4) (mem := mem4) hq8 esh8 erf8 emem8
  have u17 := un_new (rf := rf12) (mem := mem12) hq17 esh17 erf17 emem17
  have nm : ∀ b, (sh4 b).1 ≠ 0 → b ≠ q8 := fun b hb e => hb (e ▸ hq8)
  have n8 : ∀ b, (sh4 b).1 ≠ 0 → (sh8 b).1 ≠ 0 := fun b hb => by rw [(u8 b hb).1]; exact hb
  have n12 : ∀ b, (sh4 b).1 ≠ 0 → (sh12 b).1 ≠ 0 := fun b hb => by rw [(hun b (nm b hb) (n8 b hb)).1]; exact n8 b hb
  have hu : ∀ b, (sh4 b).1 ≠ 0 → Un sh4 rf4 mem4 sh17 rf17 mem17 b := fun b hb => ((u8 b hb).trans (hun b (nm b hb) (n8 b hb))).trans (u17 b (n12 b hb))
  have hM9 := hM
  obtain ⟨mo, R4, S4, R5, S5, R6, S6, R7, S7, R8, S8, R9, S9, R10, S10, R11, S11, R12, S12, R13, S13, R14, S14, R15, S15, R16, S16, R17, S17, R19, S19, R20, S20, R21, S21, R22, S22, R25, S25, R26, S26, R27, S27, R30, S30, R31, S31, hBe, hBm, hmB⟩ := hM
  have hrow : ∀ f, RWb f = true → (sh12 (B f)).1 ≠ 0 ∧ gsh (sh12 (B f)) := fun f hf => by
    have hm : f ∈ [4, 5, 6, 7, 8, 9, 10, 11, 12, 13, 14, 15, 16, 17, 19, 20, 21, 22, 25, 26, 27, 30, 31] := List.contains_iff_mem.mp hf
    simp only [List.mem_cons, List.not_mem_nil, or_false] at hm
    rcases hm with rfl | rfl | rfl | rfl | rfl | rfl | rfl | rfl | rfl | rfl | rfl | rfl | rfl | rfl | rfl | rfl | rfl | rfl | rfl | rfl | rfl | rfl | rfl
    · rw [S4]; exact ⟨by decide, by unfold gsh; decide⟩
    · rw [S5]; exact ⟨by decide, by unfold gsh; decide⟩
    · rw [S6]; exact ⟨by decide, by unfold gsh; decide⟩
    · rw [S7]; exact ⟨by decide, by unfold gsh; decide⟩
    · rw [S8]; exact ⟨by decide, by unfold gsh; decide⟩
    · rw [S9]; exact ⟨by decide, by unfold gsh; decide⟩
    · rw [S10]; exact ⟨by decide, by unfold gsh; decide⟩
    · rw [S11]; exact ⟨by decide, by unfold gsh; decide⟩
    · rw [S12]; exact ⟨by decide, by unfold gsh; decide⟩
    · rw [S13]; exact ⟨by decide, by unfold gsh; decide⟩
    · rw [S14]; exact ⟨by decide, by unfold gsh; decide⟩
    · rw [S15]; exact ⟨by decide, by unfold gsh; decide⟩
    · rw [S16]; exact ⟨by decide, by unfold gsh; decide⟩
    · rw [S17]; exact ⟨by decide, by unfold gsh; decide⟩
    · rw [S19]; exact ⟨by decide, by unfold gsh; decide⟩
    · rw [S20]; exact ⟨by decide, by unfold gsh; decide⟩
    · rw [S21]; exact ⟨by decide, by unfold gsh; decide⟩
    · rw [S22]; exact ⟨by decide, by unfold gsh; decide⟩
    · rw [S25]; exact ⟨by decide, by unfold gsh; decide⟩
    · rw [S26]; exact ⟨by decide, by unfold gsh; decide⟩
    · rw [S27]; exact ⟨by decide, by unfold gsh; decide⟩
    · rw [S30]; exact ⟨by decide, by unfold gsh; decide⟩
    · rw [S31]; exact ⟨by decide, by unfold gsh; decide⟩
  have mo2 : (sh12 q8).1 ≠ 0 := by rw [mo]; decide
  have qo : q8 ≠ q17 := fun e => mo2 (e ▸ hq17)
  have bo : ∀ f, RWb f = true → B f ≠ q17 := fun f hf e => (hrow f hf).1 (e ▸ hq17)
  have so : sh17 q17 = (14, 1) := sh_new esh17
  have f4 : ∀ f, RWb f = true → (sh4 (B f)).1 = 0 := fun f hf => by
    apply Classical.byContradiction
    intro w
    exact n8 _ w (hfr f hf)
  have o4 : (sh4 q17).1 = 0 := by
    apply Classical.byContradiction
    intro w
    exact n12 _ w hq17
  have hW2 := hW.grow (G' := fun b => b = q8 ∨ b = q17 ∨ ∃ f, RWb f = true ∧ b = B f) hu (fun b hb => by
    rcases hb with rfl | rfl | ⟨f, hf, rfl⟩
    · rw [(u17 _ mo2).1, mo]; exact Or.inl rfl
    · rw [so]; exact Or.inr (Or.inr (Or.inr rfl))
    · rw [(u17 _ (hrow f hf).1).1]; exact (hrow f hf).2) (fun b hb => by
    rcases hb with rfl | rfl | ⟨f, hf, rfl⟩
    · exact hq8
    · exact o4
    · exact f4 f hf)
  have hLS : LSt (fun b => b = q8 ∨ b = q17 ∨ ∃ f, RWb f = true ∧ b = B f) sh17 rf17 mem17 q0 q8 q17 A B [] [] [] [] [] 3 [] [] 0 0 0 := ⟨⟨la, l0, l1, l2, sa, ra, hW2⟩, hM9.st ⟨(u17 _ mo2).1, (u17 _ mo2).2.1⟩ (fun f hf => (u17 _ (hrow f hf).1).1), hV.re (fun f hf => (u17 _ (hrow f hf).1).2.2) (u17 _ mo2).2.2, ⟨Or.inl rfl, Or.inr (Or.inl rfl), fun f hf => Or.inr (Or.inr ⟨f, hf, rfl⟩)⟩, so, ⟨⟨Nat.zero_le _, fun i hi => absurd hi (Nat.not_lt_zero i)⟩, rfl, arI_nil⟩, qo, bo⟩
  refine g_iconst hC dL_law_20 ?_
  refine g_istore hC dL_law_21 (Nat.le_of_ble_eq_true rfl) ?_
  dsimp only [List.set]
  exact law_loop hC hR hB hL hO hE _ q0 q8 q17 A (L + 5) 0 0 sh17 rf17 mem17 _ _ B [] [] [] [] [] [] [] 3 0 0 0 _ _ rfl (by omega) (by omega) hLS (by decide) (by decide)
