section MC
variable {mem mem1 : Nat → Nat → Int} {m : Nat} {B : Nat → Nat}
theorem list_ext {l k : List Int} (h : l.length = k.length) (e : ∀ i, i < l.length → l.getD i 0 = k.getD i 0) : l = k := by
  apply List.ext_getElem h
  intro i h1 h2
  have := e i h1
  rw [List.getD_eq_getElem?_getD, List.getD_eq_getElem?_getD, List.getElem?_eq_getElem h1, List.getElem?_eq_getElem h2] at this
  exact this
theorem vD_app {ds : Dfs} {lk : Nat} {k f s : Int} (hBe : ∀ i j, (B i = B j) = (i = j)) (hBm : ∀ i, (B i = m) = False) (hmB : ∀ i, (m = B i) = False) (h : vD m B mem ds lk) : vD m B (gup (gup (gup (gup mem (B 25) ds.length k) (B 26) ds.length f) (B 27) ds.length s) m 23 (ds.length + 1)) (ds ++ [(k, f, s)]) lk ∧ chF m B mem (gup (gup (gup (gup mem (B 25) ds.length k) (B 26) ds.length f) (B 27) ds.length s) m 23 (ds.length + 1)) [23, 25, 26, 27] := by
  obtain ⟨h1, h2, h3⟩ := h
  refine ⟨⟨?_, ?_, fun j hj => ?_⟩, ?_⟩
  · rw [gup_s]; simp
  · simp [gup, hmB]; exact h2
  · rw [df_app]
    by_cases e : j = ds.length
    · rw [if_pos e, e]
      simp [gup, hBe, hBm]
    · have hj2 : j < ds.length := by simp at hj; omega
      rw [if_neg e]
      simp [gup, hBe, hBm, e]
      exact h3 j hj2
  · exact ((((chF.row hBe hmB).trans (chF.row hBe hmB)).trans (chF.row hBe hmB)).trans (chF.fld hmB)).mono (by decide)
theorem cmR_end {look : Nat} {xs ys : Lns} {f i j : Nat} {ds us : Dfs} (h : cmR look xs ys f i j ds us) (hi : xs.length ≤ i) (hj : ys.length ≤ j) : us = ds := by
  cases f with
  | zero => exact h.elim
  | succ f =>
    rcases h with ⟨h1, h2⟩ | ⟨h1, h2, h3, h4⟩ | ⟨h1, h2, h3, p, h4, h5⟩ | ⟨h1, h2, h3, h4, h5⟩
    · rw [h2, show xs.length - i = 0 by omega, show ys.length - j = 0 by omega]
      simp [kl]
    · omega
    · omega
    · omega
def cmH (B : Nat → Nat) (mem : Nat → Nat → Int) (K T : Nat) (xs ys : Lns) : Prop := (1 ≤ K ∧ K ≤ 80) ∧ (1 ≤ T ∧ T ≤ 80) ∧ okL xs ∧ okL ys ∧ lnM B mem K xs ∧ lnM B mem T ys
theorem lnM.nu {K i : Nat} {xs : Lns} {u : Int} (h : lnM B mem K xs) (hi : i < xs.length) (hu : u = 30 * (K : Int) + i) : mem (B 9) u.toNat = nu xs i := by
  rw [show u.toNat = 30 * K + i by omega]; exact (h.2 i hi).1
theorem lnM.sz {K i : Nat} {xs : Lns} {u : Int} (h : lnM B mem K xs) (hi : i < xs.length) (hu : u = 30 * (K : Int) + i) : mem (B 10) u.toNat = (sg xs i).length := by
  rw [show u.toNat = 30 * K + i by omega]; exact (h.2 i hi).2.1
theorem lnM.at {K i k : Nat} {xs : Lns} {u : Int} (h : lnM B mem K xs) (hi : i < xs.length) (hk : k < (sg xs i).length) (hu : u = 30 * (K : Int) + i) : mem (B 11) (10 * u + k).toNat = (sg xs i).getD k 0 := by
  rw [show (10 * u + k).toNat = 10 * (30 * K + i) + k by omega]; exact (h.2 i hi).2.2 k hk
end MC
set_option maxHeartbeats 4000000 in
set_option maxRecDepth 100000 in
theorem kX10_alike (lc : Launch) (D : va_G) (ac : Nat → ClassId) {sh : Nat → Nat × Nat} {rf : Nat → Nat → Option Nat} {mem : Nat → Nat → Int} (m : Nat) (B : Nat → Nat) (K p T q : Nat) (xs ys : Lns) (u v : Int) (hM : MO sh rf m B) (hl1 : lnM B mem K xs) (ok1 : okL xs) (hl2 : lnM B mem T ys) (ok2 : okL ys) (hK : 1 ≤ K ∧ K ≤ 80) (hT : 1 ≤ T ∧ T ≤ 80) (hp : p < xs.length) (hq : q < ys.length) (hu : u = 30 * (K : Int) + p) (hw : v = 30 * (T : Int) + q) : gMet lc D ac mX10_alike 0 [.ref m, .int (iI u), .int (iI v)] 0 0 sh rf mem (pP sh rf mem (fun r => (r = 1 ∧ sg xs p = sg ys q) ∨ (r = 0 ∧ sg xs p ≠ sg ys q))) := by
  refine gMet.mk (by decide) (by intro v hv; simp at hv; (try rcases hv with rfl | rfl | rfl) <;> rfl) (Nat.le_of_ble_eq_true rfl) (fun X hC hI => ?_)
  show gG X sh rf mem 0 0 0 [some (.ref m), some (.int (iI u)), some (.int (iI v)), none, none] []
  have hM9 := hM
  obtain ⟨mo, R4, S4, R5, S5, R6, S6, R7, S7, R8, S8, R9, S9, R10, S10, R11, S11, R12, S12, R13, S13, R14, S14, R15, S15, R16, S16, R17, S17, R19, S19, R20, S20, R21, S21, R22, S22, R25, S25, R26, S26, R27, S27, R30, S30, R31, S31, hBe, hBm, hmB⟩ := hM
  have s1 := hl1.sz hp hu
  have s2 := hl2.sz hq hw
  have k1 := ok1.1
  have k2 := ok2.1
  have z1 := (ok1.2 p).1
  have z2 := (ok2.2 q).1
  have J24 : ∀ (t k : Nat) (c : Int), k ≤ (sg xs p).length → (sg xs p).length < k + t → ((c = 1 ∧ (sg xs p).length = (sg ys q).length ∧ ∀ i, i < k → (sg xs p).getD i 0 = (sg ys q).getD i 0) ∨ (c = 0 ∧ sg xs p ≠ sg ys q)) → gG X sh rf mem 0 0 24 [some (.ref m), some (.int (iI u)), some (.int (iI v)), some (.int (iI c)), some (.int (iI k))] [] := by
    intro t
    induction t with
    | zero => intro k c c1 c2; omega
    | succ t ih =>
      intro k c c1 c2 c3
      have cb : 0 ≤ c ∧ c ≤ 1 := by omega
      refine g_iload hC dX10_alike_24 rfl ?_
      refine g_aload_n hC dX10_alike_26 rfl ?_
      refine g_getR hC fdX10_29 (by assumption) (by assumption) dX10_alike_27 ?_
      refine g_iload_n hC dX10_alike_30 rfl ?_
      refine g_iald hC (by assumption) (by omega) (by omega) (by decide) dX10_alike_31 ?_
      refine g_icmp_ge (tgt := 78) hC dX10_alike_32 (by decide) ⟨by omega, by omega⟩ ⟨by omega, by omega⟩ (fun h32 => ?_) (fun h32 => ?_)
      · rcases c3 with ⟨d0, d1, d2⟩ | ⟨d0, d1⟩
        · subst d0
          refine g_iload_n hC dX10_alike_78 rfl ?_
          refine g_zret hC hI rfl (by decide +kernel) dX10_alike_79 (Nat.le_of_ble_eq_true rfl) (Nat.le_of_ble_eq_true rfl) ⟨rfl, rfl, rfl, _, rfl, ?_⟩
          first | (exfalso; omega) | exact Or.inl ⟨rfl, list_ext d1 (fun i hi => d2 i (by omega))⟩ | exact Or.inr ⟨rfl, d1⟩
        · subst d0
          refine g_iload_n hC dX10_alike_78 rfl ?_
          refine g_zret hC hI rfl (by decide +kernel) dX10_alike_79 (Nat.le_of_ble_eq_true rfl) (Nat.le_of_ble_eq_true rfl) ⟨rfl, rfl, rfl, _, rfl, ?_⟩
          first | (exfalso; omega) | exact Or.inl ⟨rfl, list_ext d1 (fun i hi => d2 i (by omega))⟩ | exact Or.inr ⟨rfl, d1⟩
      · refine g_iload_n hC dX10_alike_35 rfl ?_
        refine g_if_eq (tgt := 78) hC dX10_alike_36 (by decide) ⟨by omega, by omega⟩ (fun h36 => ?_) (fun h36 => ?_)
        · rcases c3 with ⟨d0, d1, d2⟩ | ⟨d0, d1⟩
          · subst d0
            refine g_iload_n hC dX10_alike_78 rfl ?_
            refine g_zret hC hI rfl (by decide +kernel) dX10_alike_79 (Nat.le_of_ble_eq_true rfl) (Nat.le_of_ble_eq_true rfl) ⟨rfl, rfl, rfl, _, rfl, ?_⟩
            first | (exfalso; omega) | exact Or.inl ⟨rfl, list_ext d1 (fun i hi => d2 i (by omega))⟩ | exact Or.inr ⟨rfl, d1⟩
          · subst d0
            refine g_iload_n hC dX10_alike_78 rfl ?_
            refine g_zret hC hI rfl (by decide +kernel) dX10_alike_79 (Nat.le_of_ble_eq_true rfl) (Nat.le_of_ble_eq_true rfl) ⟨rfl, rfl, rfl, _, rfl, ?_⟩
            first | (exfalso; omega) | exact Or.inl ⟨rfl, list_ext d1 (fun i hi => d2 i (by omega))⟩ | exact Or.inr ⟨rfl, d1⟩
        · obtain ⟨d0, d1, d2⟩ := c3.resolve_right (fun w => by omega)
          have a1 := hl1.at hp (k := k) (by omega) hu
          have a2 := hl2.at hq (k := k) (by omega) hw
          have b1 := (ok1.2 p).2.2.2 k
          have b2 := (ok2.2 q).2.2.2 k
          refine g_aload_n hC dX10_alike_39 rfl ?_
          refine g_getR hC fdX10_32 (by assumption) (by assumption) dX10_alike_40 ?_
          refine g_bipush hC dX10_alike_43 (by decide +kernel) ?_
          refine g_iload_n hC dX10_alike_45 rfl ?_
          refine g_imul hC dX10_alike_46 ?_
          refine g_iload hC dX10_alike_47 rfl ?_
          refine g_iadd hC dX10_alike_49 ?_
          refine g_iald hC (by assumption) (by omega) (by omega) (by decide) dX10_alike_50 ?_
          refine g_aload_n hC dX10_alike_51 rfl ?_
          refine g_getR hC fdX10_32 (by assumption) (by assumption) dX10_alike_52 ?_
          refine g_bipush hC dX10_alike_55 (by decide +kernel) ?_
          refine g_iload_n hC dX10_alike_57 rfl ?_
          refine g_imul hC dX10_alike_58 ?_
          refine g_iload hC dX10_alike_59 rfl ?_
          refine g_iadd hC dX10_alike_61 ?_
          refine g_iald hC (by assumption) (by omega) (by omega) (by decide) dX10_alike_62 ?_
          refine g_icmp_ne (tgt := 70) hC dX10_alike_63 (by decide) ⟨by omega, by omega⟩ ⟨by omega, by omega⟩ (fun h63 => ?_) (fun h63 => ?_)
          · refine g_iconst hC dX10_alike_70 ?_
            refine g_istore_n hC 3 rfl dX10_alike_71 (Nat.le_of_ble_eq_true rfl) ?_
            dsimp only [List.set]
            refine g_iinc hC dX10_alike_72 rfl ?_
            dsimp only [List.set]
            refine g_goto (tgt := 24) hC dX10_alike_75 (by decide) ?_
            first
            | exact J24 ((sg xs p).length + 1) 0 1 (Nat.zero_le _) (by omega) (Or.inl ⟨rfl, by omega, fun i hi => absurd hi (Nat.not_lt_zero i)⟩)
            | exact J24 ((sg xs p).length + 1) 0 0 (Nat.zero_le _) (by omega) (Or.inr ⟨rfl, fun w => by rw [w] at s1; omega⟩)
            | exact ih (k + 1) 1 (by omega) (by omega) (Or.inl ⟨rfl, d1, fun i hi => by
                by_cases e : i = k
                · rw [e]; omega
                · exact d2 i (by omega)⟩)
            | exact ih (k + 1) 0 (by omega) (by omega) (Or.inr ⟨rfl, fun w => by rw [w] at a1; omega⟩)
          · refine g_iconst hC dX10_alike_66 ?_
            refine g_goto (tgt := 71) hC dX10_alike_67 (by decide) ?_
            refine g_istore_n hC 3 rfl dX10_alike_71 (Nat.le_of_ble_eq_true rfl) ?_
            dsimp only [List.set]
            refine g_iinc hC dX10_alike_72 rfl ?_
            dsimp only [List.set]
            refine g_goto (tgt := 24) hC dX10_alike_75 (by decide) ?_
            first
            | exact J24 ((sg xs p).length + 1) 0 1 (Nat.zero_le _) (by omega) (Or.inl ⟨rfl, by omega, fun i hi => absurd hi (Nat.not_lt_zero i)⟩)
            | exact J24 ((sg xs p).length + 1) 0 0 (Nat.zero_le _) (by omega) (Or.inr ⟨rfl, fun w => by rw [w] at s1; omega⟩)
            | exact ih (k + 1) 1 (by omega) (by omega) (Or.inl ⟨rfl, d1, fun i hi => by
                by_cases e : i = k
                · rw [e]; omega
                · exact d2 i (by omega)⟩)
            | exact ih (k + 1) 0 (by omega) (by omega) (Or.inr ⟨rfl, fun w => by rw [w] at a1; omega⟩)
  refine g_aload_n hC dX10_alike_0 rfl ?_
  refine g_getR hC fdX10_29 (by assumption) (by assumption) dX10_alike_1 ?_
  refine g_iload_n hC dX10_alike_4 rfl ?_
  refine g_iald hC (by assumption) (by omega) (by omega) (by decide) dX10_alike_5 ?_
  refine g_aload_n hC dX10_alike_6 rfl ?_
  refine g_getR hC fdX10_29 (by assumption) (by assumption) dX10_alike_7 ?_
  refine g_iload_n hC dX10_alike_10 rfl ?_
  refine g_iald hC (by assumption) (by omega) (by omega) (by decide) dX10_alike_11 ?_
  refine g_icmp_ne (tgt := 19) hC dX10_alike_12 (by decide) ⟨by omega, by omega⟩ ⟨by omega, by omega⟩ (fun h12 => ?_) (fun h12 => ?_)
  · refine g_iconst hC dX10_alike_19 ?_
    refine g_istore_n hC 3 rfl dX10_alike_20 (Nat.le_of_ble_eq_true rfl) ?_
    dsimp only [List.set]
    refine g_iconst hC dX10_alike_21 ?_
    refine g_istore hC dX10_alike_22 (Nat.le_of_ble_eq_true rfl) ?_
    dsimp only [List.set]
    first
    | exact J24 ((sg xs p).length + 1) 0 1 (Nat.zero_le _) (by omega) (Or.inl ⟨rfl, by omega, fun i hi => absurd hi (Nat.not_lt_zero i)⟩)
    | exact J24 ((sg xs p).length + 1) 0 0 (Nat.zero_le _) (by omega) (Or.inr ⟨rfl, fun w => by rw [w] at s1; omega⟩)
    | exact ih (k + 1) 1 (by omega) (by omega) (Or.inl ⟨rfl, d1, fun i hi => by
        by_cases e : i = k
        · rw [e]; omega
        · exact d2 i (by omega)⟩)
    | exact ih (k + 1) 0 (by omega) (by omega) (Or.inr ⟨rfl, fun w => by rw [w] at a1; omega⟩)
  · refine g_iconst hC dX10_alike_15 ?_
    refine g_goto (tgt := 20) hC dX10_alike_16 (by decide) ?_
    refine g_istore_n hC 3 rfl dX10_alike_20 (Nat.le_of_ble_eq_true rfl) ?_
    dsimp only [List.set]
    refine g_iconst hC dX10_alike_21 ?_
    refine g_istore hC dX10_alike_22 (Nat.le_of_ble_eq_true rfl) ?_
    dsimp only [List.set]
    first
    | exact J24 ((sg xs p).length + 1) 0 1 (Nat.zero_le _) (by omega) (Or.inl ⟨rfl, by omega, fun i hi => absurd hi (Nat.not_lt_zero i)⟩)
    | exact J24 ((sg xs p).length + 1) 0 0 (Nat.zero_le _) (by omega) (Or.inr ⟨rfl, fun w => by rw [w] at s1; omega⟩)
    | exact ih (k + 1) 1 (by omega) (by omega) (Or.inl ⟨rfl, d1, fun i hi => by
        by_cases e : i = k
        · rw [e]; omega
        · exact d2 i (by omega)⟩)
    | exact ih (k + 1) 0 (by omega) (by omega) (Or.inr ⟨rfl, fun w => by rw [w] at a1; omega⟩)
set_option maxHeartbeats 4000000 in
set_option maxRecDepth 100000 in
theorem kX10_differs (lc : Launch) (D : va_G) (ac : Nat → ClassId) {sh : Nat → Nat × Nat} {rf : Nat → Nat → Option Nat} {mem : Nat → Nat → Int} (m : Nat) (B : Nat → Nat) (ds : Dfs) (lk : Nat) (k f s : Int) (hM : MO sh rf m B) (hv : vD m B mem ds lk) (hk : ds.length < 60) : gMet lc D ac mX10_differs 0 [.ref m, .int (iI k), .int (iI f), .int (iI s)] 0 0 sh rf mem (pV sh rf (fun mem1 => vD m B mem1 (ds ++ [(k, f, s)]) lk ∧ chF m B mem mem1 [23, 25, 26, 27])) := by
  refine gMet.mk (by decide) (by intro v hv; simp at hv; (try rcases hv with rfl | rfl | rfl | rfl) <;> rfl) (Nat.le_of_ble_eq_true rfl) (fun X hC hI => ?_)
  show gG X sh rf mem 0 0 0 [some (.ref m), some (.int (iI k)), some (.int (iI f)), some (.int (iI s))] []
  have hM9 := hM
  obtain ⟨mo, R4, S4, R5, S5, R6, S6, R7, S7, R8, S8, R9, S9, R10, S10, R11, S11, R12, S12, R13, S13, R14, S14, R15, S15, R16, S16, R17, S17, R19, S19, R20, S20, R21, S21, R22, S22, R25, S25, R26, S26, R27, S27, R30, S30, R31, S31, hBe, hBm, hmB⟩ := hM
  have v1 := hv.1
  have v2 : (mem m 23).toNat = ds.length := by omega
  refine g_aload_n hC dX10_differs_0 rfl ?_
  refine g_getR hC fdX10_69 (by assumption) (by assumption) dX10_differs_1 ?_
  refine g_aload_n hC dX10_differs_4 rfl ?_
  refine g_getI hC fdX10_164 (by assumption) dX10_differs_5 ?_
  refine g_iload_n hC dX10_differs_8 rfl ?_
  refine g_iast hC (by assumption) (by omega) (by omega) (by decide) dX10_differs_9 ?_
  obtain ⟨mem2, e2⟩ : ∃ q, q = gup mem (B 25) (mem m 23).toNat k := ⟨_, rfl⟩
  rw [← e2]
  have t2 : mem2 m 23 = ds.length := by rw [e2, gup_a _ _ _ _ (by simp [hmB])]; exact v1
  have w2 : (mem2 m 23).toNat = ds.length := by omega
  refine g_aload_n hC dX10_differs_10 rfl ?_
  refine g_getR hC fdX10_72 (by assumption) (by assumption) dX10_differs_11 ?_
  refine g_aload_n hC dX10_differs_14 rfl ?_
  refine g_getI hC fdX10_164 (by assumption) dX10_differs_15 ?_
  refine g_iload_n hC dX10_differs_18 rfl ?_
  refine g_iast hC (by assumption) (by omega) (by omega) (by decide) dX10_differs_19 ?_
  obtain ⟨mem3, e3⟩ : ∃ q, q = gup mem2 (B 26) (mem2 m 23).toNat f := ⟨_, rfl⟩
  rw [← e3]
  have t3 : mem3 m 23 = ds.length := by rw [e3, gup_a _ _ _ _ (by simp [hmB])]; exact t2
  have w3 : (mem3 m 23).toNat = ds.length := by omega
  refine g_aload_n hC dX10_differs_20 rfl ?_
  refine g_getR hC fdX10_75 (by assumption) (by assumption) dX10_differs_21 ?_
  refine g_aload_n hC dX10_differs_24 rfl ?_
  refine g_getI hC fdX10_164 (by assumption) dX10_differs_25 ?_
  refine g_iload_n hC dX10_differs_28 rfl ?_
  refine g_iast hC (by assumption) (by omega) (by omega) (by decide) dX10_differs_29 ?_
  obtain ⟨mem4, e4⟩ : ∃ q, q = gup mem3 (B 27) (mem3 m 23).toNat s := ⟨_, rfl⟩
  rw [← e4]
  have t4 : mem4 m 23 = ds.length := by rw [e4, gup_a _ _ _ _ (by simp [hmB])]; exact t3
  refine g_aload_n hC dX10_differs_30 rfl ?_
  refine g_dup hC dX10_differs_31 rfl ?_
  refine g_getI hC fdX10_164 (by assumption) dX10_differs_32 ?_
  refine g_iconst hC dX10_differs_35 ?_
  refine g_iadd hC dX10_differs_36 ?_
  refine g_putI hC fdX10_164 (by assumption) rfl rfl dX10_differs_37 ?_
  refine g_vret hC hI rfl dX10_differs_40 (Nat.le_of_ble_eq_true rfl) (Nat.le_of_ble_eq_true rfl) ⟨rfl, rfl, rfl, ?_⟩
  rw [t4, e4, w3, e3, w2, e2, v2]
  exact vD_app hBe hBm hmB hv
set_option maxHeartbeats 4000000 in
set_option maxRecDepth 100000 in
theorem kX10_skip (lc : Launch) (D : va_G) (ac : Nat → ClassId) {sh : Nat → Nat × Nat} {rf : Nat → Nat → Option Nat} {mem : Nat → Nat → Int} (m : Nat) (B : Nat → Nat) (ds : Dfs) (lk K T : Nat) (xs ys : Lns) (i j : Nat) (u ue v ve : Int) (hM : MO sh rf m B) (hD : vD m B mem ds lk) (hlk : lk ≤ 9) (hl1 : lnM B mem K xs) (ok1 : okL xs) (hl2 : lnM B mem T ys) (ok2 : okL ys) (hK : 1 ≤ K ∧ K ≤ 80) (hT : 1 ≤ T ∧ T ≤ 80) (hp : i ≤ xs.length) (hq : j ≤ ys.length) (hu : u = 30 * (K : Int) + i) (hue : ue = 30 * (K : Int) + xs.length) (hw : v = 30 * (T : Int) + j) (hve : ve = 30 * (T : Int) + ys.length) : gMet lc D ac mX10_skip 1 [.ref m, .int (iI u), .int (iI ue), .int (iI v), .int (iI ve)] 0 0 sh rf mem (pP sh rf mem (fun r => (∃ p, Mn lk xs ys i j p ∧ r = 10 * p.1 + p.2) ∨ (r = 0 ∧ ∀ q : Nat × Nat, 1 ≤ q.1 → q.1 ≤ lk → q.2 ≤ q.1 → ¬ okP xs ys (i + q.2) (j + q.1 - q.2)))) := by
  refine gMet.mk (by decide) (by intro v hv; simp at hv; (try rcases hv with rfl | rfl | rfl | rfl | rfl) <;> rfl) (Nat.le_of_ble_eq_true rfl) (fun X hC hI => ?_)
  show gG X sh rf mem 0 0 0 [some (.ref m), some (.int (iI u)), some (.int (iI ue)), some (.int (iI v)), some (.int (iI ve)), none, none, none, none] []
  have hM9 := hM
  obtain ⟨mo, R4, S4, R5, S5, R6, S6, R7, S7, R8, S8, R9, S9, R10, S10, R11, S11, R12, S12, R13, S13, R14, S14, R15, S15, R16, S16, R17, S17, R19, S19, R20, S20, R21, S21, R22, S22, R25, S25, R26, S26, R27, S27, R30, S30, R31, S31, hBe, hBm, hmB⟩ := hM
  have k1 := ok1.1
  have k2 := ok2.1
  have l24 := hD.2.1
  have J15 : ∀ (all : Nat), 1 ≤ all → all ≤ lk → (∀ q : Nat × Nat, 1 ≤ q.1 → q.2 ≤ q.1 → q.1 < all → ¬ okP xs ys (i + q.2) (j + q.1 - q.2)) → ((∀ q : Nat × Nat, 1 ≤ q.1 → q.2 ≤ q.1 → q.1 < all + 1 → ¬ okP xs ys (i + q.2) (j + q.1 - q.2)) → ∀ o7 o8, gG X sh rf mem 0 0 76 [some (.ref m), some (.int (iI u)), some (.int (iI ue)), some (.int (iI v)), some (.int (iI ve)), some (.int (iI all)), some (.int (iI (all + 1))), o7, o8] []) → ∀ (t l : Nat), l ≤ all + 1 → all + 1 < l + t → (∀ e, e < l → ¬ okP xs ys (i + e) (j + all - e)) → ∀ o7 o8, gG X sh rf mem 0 0 15 [some (.ref m), some (.int (iI u)), some (.int (iI ue)), some (.int (iI v)), some (.int (iI ve)), some (.int (iI all)), some (.int (iI l)), o7, o8] [] := by
    intro all a1' a2' a3 K9 t
    induction t with
    | zero => intro l l1 l2; omega
    | succ t ih =>
      intro l l1 l2 l3 o7 o8
      refine g_iload hC dX10_skip_15 rfl ?_
      refine g_iload hC dX10_skip_17 rfl ?_
      refine g_icmp_gt (tgt := 76) hC dX10_skip_19 (by decide) ⟨by omega, by omega⟩ ⟨by omega, by omega⟩ (fun h19 => ?_) (fun h19 => ?_)
      · obtain rfl : l = all + 1 := by omega
        refine K9 (fun q => ?_) _ _
        intro q1 q2 q3
        by_cases z : q.1 = all
        · rw [z]; exact l3 q.2 (by omega)
        · exact a3 q q1 q2 (by omega)
      · refine g_iload_n hC dX10_skip_22 rfl ?_
        refine g_iload hC dX10_skip_23 rfl ?_
        refine g_iadd hC dX10_skip_25 ?_
        refine g_istore hC dX10_skip_26 (Nat.le_of_ble_eq_true rfl) ?_
        dsimp only [List.set]
        refine g_iload_n hC dX10_skip_28 rfl ?_
        refine g_iload hC dX10_skip_29 rfl ?_
        refine g_iadd hC dX10_skip_31 ?_
        refine g_iload hC dX10_skip_32 rfl ?_
        refine g_isub hC dX10_skip_34 ?_
        refine g_istore hC dX10_skip_35 (Nat.le_of_ble_eq_true rfl) ?_
        dsimp only [List.set]
        refine g_iload hC dX10_skip_37 rfl ?_
        refine g_iload_n hC dX10_skip_39 rfl ?_
        refine g_icmp_ge (tgt := 70) hC dX10_skip_40 (by decide) ⟨by omega, by omega⟩ ⟨by omega, by omega⟩ (fun h40 => ?_) (fun h40 => ?_)
        · have hnot : ¬ okP xs ys (i + l) (j + all - l) := fun q => by
            have q1 := q.1
            have q2 := q.2.1
            first
            | omega
            | (rcases hx55 with ⟨z, -⟩ | ⟨-, z⟩
               · omega
               · exact z q.2.2)
          refine g_iinc hC dX10_skip_70 rfl ?_
          dsimp only [List.set]
          refine g_goto (tgt := 15) hC dX10_skip_73 (by decide) ?_
          first
          | exact J15 all (by omega) (by omega) k3 (fun h9 => KK h9 (by omega)) (all + 2) 0 (by omega) (by omega) (fun e he => absurd he (Nat.not_lt_zero e)) _ _
          | exact ih (l + 1) (by omega) (by omega) (fun e he => by rcases Nat.lt_succ_iff_lt_or_eq.mp he with q | rfl; exact l3 e q; exact hnot) _ _
        · refine g_iload hC dX10_skip_43 rfl ?_
          refine g_iload hC dX10_skip_45 rfl ?_
          refine g_icmp_ge (tgt := 70) hC dX10_skip_47 (by decide) ⟨by omega, by omega⟩ ⟨by omega, by omega⟩ (fun h47 => ?_) (fun h47 => ?_)
          · have hnot : ¬ okP xs ys (i + l) (j + all - l) := fun q => by
              have q1 := q.1
              have q2 := q.2.1
              first
              | omega
              | (rcases hx55 with ⟨z, -⟩ | ⟨-, z⟩
                 · omega
                 · exact z q.2.2)
            refine g_iinc hC dX10_skip_70 rfl ?_
            dsimp only [List.set]
            refine g_goto (tgt := 15) hC dX10_skip_73 (by decide) ?_
            first
            | exact J15 all (by omega) (by omega) k3 (fun h9 => KK h9 (by omega)) (all + 2) 0 (by omega) (by omega) (fun e he => absurd he (Nat.not_lt_zero e)) _ _
            | exact ih (l + 1) (by omega) (by omega) (fun e he => by rcases Nat.lt_succ_iff_lt_or_eq.mp he with q | rfl; exact l3 e q; exact hnot) _ _
          · refine g_aload_n hC dX10_skip_50 rfl ?_
            refine g_iload hC dX10_skip_51 rfl ?_
            refine g_iload hC dX10_skip_53 rfl ?_
            refine g_VP hC (kX10_alike (gl X) (gD X) (gac X) m B K (i + l) T (j + all - l) xs ys (u + l) (v + all - l) hM9 hl1 ok1 hl2 ok2 hK hT (by omega) (by omega) (by omega) (by omega)) cvX10_alike lkX10_167 (by assumption) rfl rfl (Nat.le_of_ble_eq_true rfl) (hI.fit (Nat.le_of_ble_eq_true rfl) (Nat.le_of_ble_eq_true rfl) (Nat.le_of_ble_eq_true rfl)) dX10_skip_55 (fun x55 hx55 => ?_)
            refine g_if_eq (tgt := 70) hC dX10_skip_58 (by decide) ⟨by omega, by omega⟩ (fun h58 => ?_) (fun h58 => ?_)
            · have hnot : ¬ okP xs ys (i + l) (j + all - l) := fun q => by
                have q1 := q.1
                have q2 := q.2.1
                first
                | omega
                | (rcases hx55 with ⟨z, -⟩ | ⟨-, z⟩
                   · omega
                   · exact z q.2.2)
              refine g_iinc hC dX10_skip_70 rfl ?_
              dsimp only [List.set]
              refine g_goto (tgt := 15) hC dX10_skip_73 (by decide) ?_
              first
              | exact J15 all (by omega) (by omega) k3 (fun h9 => KK h9 (by omega)) (all + 2) 0 (by omega) (by omega) (fun e he => absurd he (Nat.not_lt_zero e)) _ _
              | exact ih (l + 1) (by omega) (by omega) (fun e he => by rcases Nat.lt_succ_iff_lt_or_eq.mp he with q | rfl; exact l3 e q; exact hnot) _ _
            · refine g_bipush hC dX10_skip_61 (by decide +kernel) ?_
              refine g_iload hC dX10_skip_63 rfl ?_
              refine g_imul hC dX10_skip_65 ?_
              refine g_iload hC dX10_skip_66 rfl ?_
              refine g_iadd hC dX10_skip_68 ?_
              refine g_iret hC hI rfl dX10_skip_69 (Nat.le_of_ble_eq_true rfl) (Nat.le_of_ble_eq_true rfl) ⟨rfl, rfl, rfl, _, rfl, ?_⟩
              refine Or.inl ⟨(all, l), ⟨a1', a2', by show l ≤ all; omega, ?_, fun q q1 q2 q3 => ?_⟩, rfl⟩
              · rcases hx55 with ⟨-, z⟩ | ⟨z, -⟩
                · exact ⟨by show i + l < _; omega, by show j + all - l < _; omega, z⟩
                · exfalso; omega
              · rcases q3 with q3 | ⟨q3, q4⟩
                · exact a3 q q1 q2 q3
                · have q3' : q.1 = all := q3
                  rw [q3']
                  exact l3 q.2 q4
  have J3 : ∀ (t all : Nat), 1 ≤ all → all ≤ lk + 1 → lk + 1 < all + t → (∀ q : Nat × Nat, 1 ≤ q.1 → q.2 ≤ q.1 → q.1 < all → ¬ okP xs ys (i + q.2) (j + q.1 - q.2)) → ∀ o6 o7 o8, gG X sh rf mem 0 0 3 [some (.ref m), some (.int (iI u)), some (.int (iI ue)), some (.int (iI v)), some (.int (iI ve)), some (.int (iI all)), o6, o7, o8] [] := by
    intro t
    induction t with
    | zero => intro all k1 k2 k4; omega
    | succ t ih3 =>
      intro all k1 k2 k4 k3 o6 o7 o8
      have KK : (∀ q : Nat × Nat, 1 ≤ q.1 → q.2 ≤ q.1 → q.1 < all + 1 → ¬ okP xs ys (i + q.2) (j + q.1 - q.2)) → all ≤ lk → ∀ o7 o8, gG X sh rf mem 0 0 76 [some (.ref m), some (.int (iI u)), some (.int (iI ue)), some (.int (iI v)), some (.int (iI ve)), some (.int (iI all)), some (.int (iI (all + 1))), o7, o8] [] := by
        intro h9 h8 o7 o8
        refine g_iinc hC dX10_skip_76 rfl ?_
        dsimp only [List.set]
        refine g_goto (tgt := 3) hC dX10_skip_79 (by decide) ?_
        exact ih3 (all + 1) (by omega) (by omega) (by omega) h9 _ _ _
      refine g_iload hC dX10_skip_3 rfl ?_
      refine g_aload_n hC dX10_skip_5 rfl ?_
      refine g_getI hC fdX10_65 (by assumption) dX10_skip_6 ?_
      refine g_icmp_gt (tgt := 82) hC dX10_skip_9 (by decide) ⟨by omega, by omega⟩ ⟨by omega, by omega⟩ (fun h9 => ?_) (fun h9 => ?_)
      · refine g_iconst hC dX10_skip_82 ?_
        refine g_iret hC hI rfl dX10_skip_83 (Nat.le_of_ble_eq_true rfl) (Nat.le_of_ble_eq_true rfl) ⟨rfl, rfl, rfl, _, rfl, ?_⟩
        exact Or.inr ⟨rfl, fun q q1 q2 q3 => k3 q q1 q3 (by omega)⟩
      · refine g_iconst hC dX10_skip_12 ?_
        refine g_istore hC dX10_skip_13 (Nat.le_of_ble_eq_true rfl) ?_
        dsimp only [List.set]
        first
        | exact J15 all (by omega) (by omega) k3 (fun h9 => KK h9 (by omega)) (all + 2) 0 (by omega) (by omega) (fun e he => absurd he (Nat.not_lt_zero e)) _ _
        | exact ih (l + 1) (by omega) (by omega) (fun e he => by rcases Nat.lt_succ_iff_lt_or_eq.mp he with q | rfl; exact l3 e q; exact hnot) _ _
  refine g_iconst hC dX10_skip_0 ?_
  refine g_istore hC dX10_skip_1 (Nat.le_of_ble_eq_true rfl) ?_
  dsimp only [List.set]
  exact J3 (lk + 2) 1 (by omega) (by omega) (by omega) (fun q q1 q2 q3 => by omega) _ _ _
set_option maxHeartbeats 4000000 in
set_option maxRecDepth 100000 in
theorem kX10_compare (lc : Launch) (D : va_G) (ac : Nat → ClassId) {sh : Nat → Nat × Nat} {rf : Nat → Nat → Option Nat} {mem : Nat → Nat → Int} (m : Nat) (B : Nat → Nat) (rp ex ar : List Int) (ms : List (Option MemT)) (ss : List (Option SetT)) (ch : Lns) (ds : Dfs) (lk : Nat) (g y z : Int) (a b : Int) (hM : MO sh rf m B) (hV : MV m B mem rp ms ss ch ds lk ex ar g y z) (kM : okM ms) (klk : lk ≤ 9) (h_a : inR a) (h_b : inR b) : gMet lc D ac mX10_compare 3 [.ref m, .int (iI a), .int (iI b)] 0 0 sh rf mem (pM sh rf (fun r mem1 => ((memAt ms a = none ∨ memAt ms b = none) ∧ r = -2 ∧ MV m B mem1 rp ms ss ch ds lk ex ar g y z ∧ chA m B mem mem1) ∨ (∃ p q es, memAt ms a = some p ∧ memAt ms b = some q ∧ cmR lk p.2.2 q.2.2 100 0 0 [] es ∧ r = es.length ∧ MV m B mem1 rp ms ss ch es lk ex ar g y z ∧ chA m B mem mem1))) := by
  refine gMet.mk (by decide) (by intro v hv; simp at hv; (try rcases hv with rfl | rfl | rfl) <;> rfl) (Nat.le_of_ble_eq_true rfl) (fun X hC hI => ?_)
  show gG X sh rf mem 0 0 0 [some (.ref m), some (.int (iI a)), some (.int (iI b)), none, none, none, none, none, none, none, none, none] []
  have hM9 := hM
  obtain ⟨mo, R4, S4, R5, S5, R6, S6, R7, S7, R8, S8, R9, S9, R10, S10, R11, S11, R12, S12, R13, S13, R14, S14, R15, S15, R16, S16, R17, S17, R19, S19, R20, S20, R21, S21, R22, S22, R25, S25, R26, S26, R27, S27, R30, S30, R31, S31, hBe, hBm, hmB⟩ := hM
  have i_a := h_a
  obtain ⟨a1, a2⟩ := h_a
  have i_b := h_b
  obtain ⟨b1, b2⟩ := h_b
  obtain ⟨mem0, e0⟩ : ∃ q, q = gup mem m 0 0 := ⟨_, rfl⟩
  obtain ⟨hV0, hc0⟩ := MV.code (v := 0) hmB hV
  rw [← e0] at hV0 hc0
  have hV9 := hV0
  obtain ⟨hvL, hvM, hvS, hvC, hvD, hvO, hvI, hvT⟩ := hV0
  have J261 : ∀ (K T : Nat) (xs ys : Lns) (m2 : Nat → Nat → Int), cmH B m2 K T xs ys → ∀ (ue ve u w1 w2 : Int) (i j n : Nat) (es : Dfs) o7 o8, ue = 30 * (K : Int) + xs.length → ve = 30 * (T : Int) + ys.length → u = 30 * (K : Int) + i → w2 = n → i ≤ xs.length → j + n ≤ ys.length → es.length + n ≤ 60 → (∀ (m1 : Nat → Nat → Int) (v : Int) o11, v = 30 * (T : Int) + (j + n) → vD m B m1 (es ++ kl 2 ys j n) lk → chF m B m2 m1 [23, 25, 26, 27] → gG X sh rf m1 0 0 61 [some (.ref m), some (.int (iI a)), some (.int (iI b)), some (.int (iI u)), some (.int (iI v)), some (.int (iI ue)), some (.int (iI ve)), o7, o8, some (.int (iI w1)), some (.int (iI w2)), o11] []) → ∀ (t k : Nat) (m1 : Nat → Nat → Int) (v : Int), k ≤ n → n < k + t → v = 30 * (T : Int) + (j + k) → vD m B m1 (es ++ kl 2 ys j k) lk → chF m B m2 m1 [23, 25, 26, 27] → gG X sh rf m1 0 0 261 [some (.ref m), some (.int (iI a)), some (.int (iI b)), some (.int (iI u)), some (.int (iI v)), some (.int (iI ue)), some (.int (iI ve)), o7, o8, some (.int (iI w1)), some (.int (iI w2)), some (.int (iI k))] [] := by
    intro K T xs ys m2 H ue ve u w1 w2 i j n es o7 o8 eue eve eu ew2 hi hj hes K9 t
    have H9 := H
    obtain ⟨hK, hT, ok1, ok2, hl1, hl2⟩ := H
    have kx1 := ok1.1
    have kx2 := ok2.1
    induction t with
    | zero => intro k m1 v c1 c2; omega
    | succ t ih =>
      intro k m1 v c1 c2 c3 c4 c5
      have hll : (es ++ kl 2 ys j k).length = es.length + k := by rw [List.length_append, kl_len]
      refine g_iload hC dX10_compare_261 rfl ?_
      refine g_iload hC dX10_compare_263 rfl ?_
      refine g_icmp_ge (tgt := 290) hC dX10_compare_265 (by decide) ⟨by omega, by omega⟩ ⟨by omega, by omega⟩ (fun h265 => ?_) (fun h265 => ?_)
      · refine g_goto (tgt := 61) hC dX10_compare_290 (by decide) ?_
        first
        | (obtain rfl : k = n := by omega
           exact K9 m1 v _ c3 c4 c5)
        | (refine ih (i + 1) (j + 1) m1 es (u + 1) (v + 1) _ _ _ _ _ (by omega) (by omega) (by omega) (by omega) (by omega) (by omega) c7 c8 (fun us h => hK9 us (Or.inr (Or.inl ⟨by omega, by omega, ?_, h⟩)))
           rcases hx91 with ⟨-, z⟩ | ⟨z, -⟩
           · exact z
           · exfalso; omega)
        | exact J61 p q K T p.2.2 q.2.2 mem2 _ _ ep eq rfl rfl ⟨⟨by omega, by omega⟩, ⟨by omega, by omega⟩, okp, okq, lp, lq⟩ cm2 (by omega) (by omega) 100 0 0 mem2 [] _ _ _ _ _ _ _ (by omega) (Nat.zero_le _) (Nat.zero_le _) (by simp) (by omega) (by omega) vd2 chF.rf0 (fun us h => h)
      · refine g_aload_n hC dX10_compare_268 rfl ?_
        refine g_iconst hC dX10_compare_269 ?_
        refine g_iconst hC dX10_compare_270 ?_
        have ny := (hl2.st c5 (by decide) (by decide) (by decide) (by decide)).nu (i := j + k) (u := v) (by omega) (by omega)
        refine g_aload_n hC dX10_compare_271 rfl ?_
        refine g_getR hC fdX10_26 (by assumption) (by assumption) dX10_compare_272 ?_
        refine g_iload hC dX10_compare_275 rfl ?_
        refine g_iald hC (by assumption) (by omega) (by omega) (by decide) dX10_compare_277 ?_
        rw [ny]
        refine g_VV hC (kX10_differs (gl X) (gD X) (gac X) m B _ lk 2 0 (nu ys (j + k)) hM9 c4 (by omega)) cvX10_differs lkX10_175 (by assumption) rfl rfl (Nat.le_of_ble_eq_true rfl) (hI.fit (Nat.le_of_ble_eq_true rfl) (Nat.le_of_ble_eq_true rfl) (Nat.le_of_ble_eq_true rfl)) dX10_compare_278 (fun mem278 hx278 => ?_)
        refine g_iinc hC dX10_compare_281 rfl ?_
        dsimp only [List.set]
        refine g_iinc hC dX10_compare_284 rfl ?_
        dsimp only [List.set]
        refine g_goto (tgt := 261) hC dX10_compare_287 (by decide) ?_
        first
        | exact J261 K T xs ys m2 H9 ue ve u _ _ (i + n1) j n2 (es ++ kl 1 xs i n1) _ _ eue eve (by omega) ew2 (by omega) hj (by rw [List.length_append, kl_len]; omega) (fun m3 v3 o3 q1 q2 q3 => K9 m3 u v3 o3 (by omega) q1 q2 q3) (n2 + 1) 0 m1 v (Nat.zero_le _) (by omega) (by omega) (by obtain ⟨⟩ : k = n1 := (by omega); simp only [kl, List.append_nil]; exact c4) c5
        | (refine ih (k + 1) mem278 (v + 1) (by omega) (by omega) (by omega) ?_ ((c5.trans hx278.2).mono (by decide))
           rw [kl, ← List.append_assoc]
           exact hx278.1)
  have J230 : ∀ (K T : Nat) (xs ys : Lns) (m2 : Nat → Nat → Int), cmH B m2 K T xs ys → ∀ (ue ve v w1 w2 : Int) (i j n1 n2 : Nat) (es : Dfs) o7 o8, ue = 30 * (K : Int) + xs.length → ve = 30 * (T : Int) + ys.length → v = 30 * (T : Int) + j → w1 = n1 → w2 = n2 → i + n1 ≤ xs.length → j + n2 ≤ ys.length → es.length + n1 + n2 ≤ 60 → (∀ (m1 : Nat → Nat → Int) (u v : Int) o11, u = 30 * (K : Int) + (i + n1) → v = 30 * (T : Int) + (j + n2) → vD m B m1 (es ++ kl 1 xs i n1 ++ kl 2 ys j n2) lk → chF m B m2 m1 [23, 25, 26, 27] → gG X sh rf m1 0 0 61 [some (.ref m), some (.int (iI a)), some (.int (iI b)), some (.int (iI u)), some (.int (iI v)), some (.int (iI ue)), some (.int (iI ve)), o7, o8, some (.int (iI w1)), some (.int (iI w2)), o11] []) → ∀ (t k : Nat) (m1 : Nat → Nat → Int) (u : Int), k ≤ n1 → n1 < k + t → u = 30 * (K : Int) + (i + k) → vD m B m1 (es ++ kl 1 xs i k) lk → chF m B m2 m1 [23, 25, 26, 27] → gG X sh rf m1 0 0 230 [some (.ref m), some (.int (iI a)), some (.int (iI b)), some (.int (iI u)), some (.int (iI v)), some (.int (iI ue)), some (.int (iI ve)), o7, o8, some (.int (iI w1)), some (.int (iI w2)), some (.int (iI k))] [] := by
    intro K T xs ys m2 H ue ve v w1 w2 i j n1 n2 es o7 o8 eue eve ev ew1 ew2 hi hj hes K9 t
    have H9 := H
    obtain ⟨hK, hT, ok1, ok2, hl1, hl2⟩ := H
    have kx1 := ok1.1
    have kx2 := ok2.1
    induction t with
    | zero => intro k m1 u c1 c2; omega
    | succ t ih =>
      intro k m1 u c1 c2 c3 c4 c5
      have hll : (es ++ kl 1 xs i k).length = es.length + k := by rw [List.length_append, kl_len]
      refine g_iload hC dX10_compare_230 rfl ?_
      refine g_iload hC dX10_compare_232 rfl ?_
      refine g_icmp_ge (tgt := 258) hC dX10_compare_234 (by decide) ⟨by omega, by omega⟩ ⟨by omega, by omega⟩ (fun h234 => ?_) (fun h234 => ?_)
      · refine g_iconst hC dX10_compare_258 ?_
        refine g_istore hC dX10_compare_259 (Nat.le_of_ble_eq_true rfl) ?_
        dsimp only [List.set]
        first
        | exact J261 K T xs ys m2 H9 ue ve u _ _ (i + n1) j n2 (es ++ kl 1 xs i n1) _ _ eue eve (by omega) ew2 (by omega) hj (by rw [List.length_append, kl_len]; omega) (fun m3 v3 o3 q1 q2 q3 => K9 m3 u v3 o3 (by omega) q1 q2 q3) (n2 + 1) 0 m1 v (Nat.zero_le _) (by omega) (by omega) (by obtain ⟨⟩ : k = n1 := (by omega); simp only [kl, List.append_nil]; exact c4) c5
        | (refine ih (k + 1) mem278 (v + 1) (by omega) (by omega) (by omega) ?_ ((c5.trans hx278.2).mono (by decide))
           rw [kl, ← List.append_assoc]
           exact hx278.1)
      · have nx := (hl1.st c5 (by decide) (by decide) (by decide) (by decide)).nu (i := i + k) (u := u) (by omega) (by omega)
        refine g_aload_n hC dX10_compare_237 rfl ?_
        refine g_iconst hC dX10_compare_238 ?_
        refine g_aload_n hC dX10_compare_239 rfl ?_
        refine g_getR hC fdX10_26 (by assumption) (by assumption) dX10_compare_240 ?_
        refine g_iload_n hC dX10_compare_243 rfl ?_
        refine g_iald hC (by assumption) (by omega) (by omega) (by decide) dX10_compare_244 ?_
        rw [nx]
        refine g_iconst hC dX10_compare_245 ?_
        refine g_VV hC (kX10_differs (gl X) (gD X) (gac X) m B _ lk 1 (nu xs (i + k)) 0 hM9 c4 (by omega)) cvX10_differs lkX10_175 (by assumption) rfl rfl (Nat.le_of_ble_eq_true rfl) (hI.fit (Nat.le_of_ble_eq_true rfl) (Nat.le_of_ble_eq_true rfl) (Nat.le_of_ble_eq_true rfl)) dX10_compare_246 (fun mem246 hx246 => ?_)
        refine g_iinc hC dX10_compare_249 rfl ?_
        dsimp only [List.set]
        refine g_iinc hC dX10_compare_252 rfl ?_
        dsimp only [List.set]
        refine g_goto (tgt := 230) hC dX10_compare_255 (by decide) ?_
        first
        | (refine ih (k + 1) mem246 (u + 1) (by omega) (by omega) (by omega) ?_ ((c5.trans hx246.2).mono (by decide))
           rw [kl, ← List.append_assoc]
           exact hx246.1)
        | exact J230 K T xs ys m2 H9 ue ve v _ _ i j p.2 (p.1 - p.2) es _ _ eue eve c6 (by omega) (by omega) (by omega) (by omega) (by omega) (fun m3 u3 v3 o3 q1 q2 q3 q4 => ih (i + p.2) (j + (p.1 - p.2)) m3 _ u3 v3 _ _ _ _ _ (by omega) (by omega) (by omega) (by simp only [List.length_append, kl_len]; omega) (by omega) (by omega) q3 q4 (fun us h => hK9 us (Or.inr (Or.inr (Or.inl ⟨hb.1, hb.2, hns, p, hp, h⟩))))) (p.2 + 1) 0 m1 u (Nat.zero_le _) (by omega) (by omega) (by simp only [kl, List.append_nil]; exact c7) c8
        | exact J230 K T xs ys m2 H9 ue ve (v + 1) _ _ (i + 1) (j + 1) 0 0 (es ++ [(3, nu xs i, nu ys j)]) _ _ eue eve (by omega) (by omega) (by omega) (by omega) (by omega) (by simp only [List.length_append, List.length_cons, List.length_nil]; omega) (fun m3 u3 v3 o3 q1 q2 q3 q4 => ih (i + 1) (j + 1) m3 _ u3 v3 _ _ _ _ _ (by omega) (by omega) (by omega) (by simp only [List.length_append, List.length_cons, List.length_nil]; omega) (by omega) (by omega) (by simp only [kl, List.append_nil] at q3; exact q3) q4 (fun us h => hK9 us (Or.inr (Or.inr (Or.inr ⟨hb.1, hb.2, hns, g2, h⟩))))) 1 0 mem218 (u + 1) (Nat.zero_le _) (by omega) (by omega) (by simp only [kl, List.append_nil]; exact hx218.1) ((c8.trans hx218.2).mono (by decide))
        | exact J230 K T xs ys m2 H9 ue ve v _ _ i j (xs.length - i) (ys.length - j) es _ _ eue eve c6 (by omega) (by omega) (by omega) (by omega) (by omega) (fun m3 u3 v3 o3 q1 q2 q3 q4 => ih (i + (xs.length - i)) (j + (ys.length - j)) m3 _ u3 v3 _ _ _ _ _ (by omega) (by omega) (by omega) (by simp only [List.length_append, kl_len]; omega) (by omega) (by omega) q3 q4 (fun us h => hK9 us (Or.inl ⟨by omega, cmR_end h (by omega) (by omega)⟩))) (xs.length - i + 1) 0 m1 u (Nat.zero_le _) (by omega) (by omega) (by simp only [kl, List.append_nil]; exact c7) c8
  have J61 : ∀ (p0 q0 : MemT) (K T : Nat) (xs ys : Lns) (m2 : Nat → Nat → Int) (ue ve : Int), memAt ms a = some p0 → memAt ms b = some q0 → xs = p0.2.2 → ys = q0.2.2 → cmH B m2 K T xs ys → chF m B mem0 m2 [23] → ue = 30 * (K : Int) + xs.length → ve = 30 * (T : Int) + ys.length → ∀ (f i j : Nat) (m1 : Nat → Nat → Int) (es : Dfs) (u v : Int) o7 o8 o9 o10 o11, (xs.length - i) + (ys.length - j) < f → i ≤ xs.length → j ≤ ys.length → es.length ≤ i + j → u = 30 * (K : Int) + i → v = 30 * (T : Int) + j → vD m B m1 es lk → chF m B m2 m1 [23, 25, 26, 27] → (∀ us, cmR lk xs ys f i j es us → cmR lk xs ys 100 0 0 [] us) → gG X sh rf m1 0 0 61 [some (.ref m), some (.int (iI a)), some (.int (iI b)), some (.int (iI u)), some (.int (iI v)), some (.int (iI ue)), some (.int (iI ve)), o7, o8, o9, o10, o11] [] := by
    intro p0 q0 K T xs ys m2 ue ve ep0 eq0 exs eys H cm2 eue eve f
    have H9 := H
    obtain ⟨hK, hT, ok1, ok2, hl1, hl2⟩ := H
    have kx1 := ok1.1
    have kx2 := ok2.1
    induction f with
    | zero => intro i j m1 es u v o7 o8 o9 o10 o11 h9; omega
    | succ f ih =>
      intro i j m1 es u v o7 o8 o9 o10 o11 h9 c1 c2 c3 c5 c6 c7 c8 hK9
      have hn1 := hl1.st c8 (by decide) (by decide) (by decide) (by decide)
      have hn2 := hl2.st c8 (by decide) (by decide) (by decide) (by decide)
      refine g_iload_n hC dX10_compare_61 rfl ?_
      rcases (show (i < xs.length ∧ j < ys.length) ∨ (i < xs.length ∧ ¬ j < ys.length) ∨ (¬ i < xs.length ∧ j < ys.length) ∨ (¬ i < xs.length ∧ ¬ j < ys.length) by omega) with hb | hb | hb | hb
      · refine g_iload hC dX10_compare_62 rfl ?_
        refine g_icmp_lt (tgt := 74) hC dX10_compare_64 (by decide) ⟨by omega, by omega⟩ ⟨by omega, by omega⟩ (fun h64 => ?_) (fun h64 => ?_)
        · refine g_iload_n hC dX10_compare_74 rfl ?_
          refine g_iload hC dX10_compare_75 rfl ?_
          refine g_icmp_ge (tgt := 106) hC dX10_compare_77 (by decide) ⟨by omega, by omega⟩ ⟨by omega, by omega⟩ (fun h77 => ?_) (fun h77 => ?_)
          · exfalso; omega
          · refine g_iload hC dX10_compare_80 rfl ?_
            refine g_iload hC dX10_compare_82 rfl ?_
            refine g_icmp_ge (tgt := 106) hC dX10_compare_84 (by decide) ⟨by omega, by omega⟩ ⟨by omega, by omega⟩ (fun h84 => ?_) (fun h84 => ?_)
            · exfalso; omega
            · refine g_aload_n hC dX10_compare_87 rfl ?_
              refine g_iload_n hC dX10_compare_88 rfl ?_
              refine g_iload hC dX10_compare_89 rfl ?_
              refine g_VP hC (kX10_alike (gl X) (gD X) (gac X) m B K i T j xs ys u v hM9 hn1 ok1 hn2 ok2 hK hT hb.1 hb.2 c5 c6) cvX10_alike lkX10_167 (by assumption) rfl rfl (Nat.le_of_ble_eq_true rfl) (hI.fit (Nat.le_of_ble_eq_true rfl) (Nat.le_of_ble_eq_true rfl) (Nat.le_of_ble_eq_true rfl)) dX10_compare_91 (fun x91 hx91 => ?_)
              refine g_if_eq (tgt := 106) hC dX10_compare_94 (by decide) ⟨by omega, by omega⟩ (fun h94 => ?_) (fun h94 => ?_)
              · have hns : i < xs.length ∧ j < ys.length → sg xs i ≠ sg ys j := fun q => by
                  first
                  | (exfalso; omega)
                  | (rcases hx91 with ⟨z, -⟩ | ⟨-, z⟩
                     · exfalso; omega
                     · exact z)
                refine g_iload_n hC dX10_compare_106 rfl ?_
                refine g_iload hC dX10_compare_107 rfl ?_
                refine g_icmp_ge (tgt := 123) hC dX10_compare_109 (by decide) ⟨by omega, by omega⟩ ⟨by omega, by omega⟩ (fun h109 => ?_) (fun h109 => ?_)
                · exfalso; omega
                · refine g_iload hC dX10_compare_112 rfl ?_
                  refine g_iload hC dX10_compare_114 rfl ?_
                  refine g_icmp_ge (tgt := 123) hC dX10_compare_116 (by decide) ⟨by omega, by omega⟩ ⟨by omega, by omega⟩ (fun h116 => ?_) (fun h116 => ?_)
                  · exfalso; omega
                  · refine g_iconst hC dX10_compare_119 ?_
                    refine g_goto (tgt := 124) hC dX10_compare_120 (by decide) ?_
                    refine g_istore hC dX10_compare_124 (Nat.le_of_ble_eq_true rfl) ?_
                    dsimp only [List.set]
                    refine g_iload hC dX10_compare_126 rfl ?_
                    refine g_if_eq (tgt := 145) hC dX10_compare_128 (by decide) ⟨by omega, by omega⟩ (fun h128 => ?_) (fun h128 => ?_)
                    · exfalso; omega
                    · replace hns := hns hb
                      refine g_aload_n hC dX10_compare_131 rfl ?_
                      refine g_iload_n hC dX10_compare_132 rfl ?_
                      refine g_iload hC dX10_compare_133 rfl ?_
                      refine g_iload hC dX10_compare_135 rfl ?_
                      refine g_iload hC dX10_compare_137 rfl ?_
                      refine g_VP hC (kX10_skip (gl X) (gD X) (gac X) m B es lk K T xs ys i j u ue v ve hM9 c7 klk hn1 ok1 hn2 ok2 hK hT c1 c2 c5 eue c6 eve) cvX10_skip lkX10_171 (by assumption) rfl rfl (Nat.le_of_ble_eq_true rfl) (hI.fit (Nat.le_of_ble_eq_true rfl) (Nat.le_of_ble_eq_true rfl) (Nat.le_of_ble_eq_true rfl)) dX10_compare_139 (fun x139 hx139 => ?_)
                      rcases hx139 with ⟨p, hp, e139⟩ | ⟨e139, g2⟩
                      · have hp1 := hp.1
                        have hp2 := hp.2.1
                        have hp3 := hp.2.2.1
                        have hp41 := hp.2.2.2.1.1
                        have hp42 := hp.2.2.2.1.2.1
                        refine g_goto (tgt := 146) hC dX10_compare_142 (by decide) ?_
                        refine g_istore hC dX10_compare_146 (Nat.le_of_ble_eq_true rfl) ?_
                        dsimp only [List.set]
                        refine g_iload hC dX10_compare_148 rfl ?_
                        refine g_if_eq (tgt := 161) hC dX10_compare_150 (by decide) ⟨by omega, by omega⟩ (fun h150 => ?_) (fun h150 => ?_)
                        · exfalso; omega
                        · refine g_iload hC dX10_compare_153 rfl ?_
                          refine g_bipush hC dX10_compare_155 (by decide +kernel) ?_
                          refine g_irem hC dX10_compare_157 (by omega) (by omega) (by omega) (by omega) ?_
                          refine g_goto (tgt := 165) hC dX10_compare_158 (by decide) ?_
                          refine g_istore hC dX10_compare_165 (Nat.le_of_ble_eq_true rfl) ?_
                          dsimp only [List.set]
                          refine g_iload hC dX10_compare_167 rfl ?_
                          refine g_if_eq (tgt := 186) hC dX10_compare_169 (by decide) ⟨by omega, by omega⟩ (fun h169 => ?_) (fun h169 => ?_)
                          · exfalso; omega
                          · refine g_iload hC dX10_compare_172 rfl ?_
                            refine g_bipush hC dX10_compare_174 (by decide +kernel) ?_
                            refine g_idiv hC dX10_compare_176 (by omega) (by omega) (by omega) (by omega) ?_
                            refine g_iload hC dX10_compare_177 rfl ?_
                            refine g_bipush hC dX10_compare_179 (by decide +kernel) ?_
                            refine g_irem hC dX10_compare_181 (by omega) (by omega) (by omega) (by omega) ?_
                            refine g_isub hC dX10_compare_182 ?_
                            refine g_goto (tgt := 191) hC dX10_compare_183 (by decide) ?_
                            refine g_istore hC dX10_compare_191 (Nat.le_of_ble_eq_true rfl) ?_
                            dsimp only [List.set]
                            refine g_iload hC dX10_compare_193 rfl ?_
                            refine g_if_eq (tgt := 227) hC dX10_compare_195 (by decide) ⟨by omega, by omega⟩ (fun h195 => ?_) (fun h195 => ?_)
                            · exfalso; omega
                            · refine g_iload hC dX10_compare_198 rfl ?_
                              refine g_if_ne (tgt := 227) hC dX10_compare_200 (by decide) ⟨by omega, by omega⟩ (fun h200 => ?_) (fun h200 => ?_)
                              · refine g_iconst hC dX10_compare_227 ?_
                                refine g_istore hC dX10_compare_228 (Nat.le_of_ble_eq_true rfl) ?_
                                dsimp only [List.set]
                                first
                                | (refine ih (k + 1) mem246 (u + 1) (by omega) (by omega) (by omega) ?_ ((c5.trans hx246.2).mono (by decide))
                                   rw [kl, ← List.append_assoc]
                                   exact hx246.1)
                                | exact J230 K T xs ys m2 H9 ue ve v _ _ i j p.2 (p.1 - p.2) es _ _ eue eve c6 (by omega) (by omega) (by omega) (by omega) (by omega) (fun m3 u3 v3 o3 q1 q2 q3 q4 => ih (i + p.2) (j + (p.1 - p.2)) m3 _ u3 v3 _ _ _ _ _ (by omega) (by omega) (by omega) (by simp only [List.length_append, kl_len]; omega) (by omega) (by omega) q3 q4 (fun us h => hK9 us (Or.inr (Or.inr (Or.inl ⟨hb.1, hb.2, hns, p, hp, h⟩))))) (p.2 + 1) 0 m1 u (Nat.zero_le _) (by omega) (by omega) (by simp only [kl, List.append_nil]; exact c7) c8
                                | exact J230 K T xs ys m2 H9 ue ve (v + 1) _ _ (i + 1) (j + 1) 0 0 (es ++ [(3, nu xs i, nu ys j)]) _ _ eue eve (by omega) (by omega) (by omega) (by omega) (by omega) (by simp only [List.length_append, List.length_cons, List.length_nil]; omega) (fun m3 u3 v3 o3 q1 q2 q3 q4 => ih (i + 1) (j + 1) m3 _ u3 v3 _ _ _ _ _ (by omega) (by omega) (by omega) (by simp only [List.length_append, List.length_cons, List.length_nil]; omega) (by omega) (by omega) (by simp only [kl, List.append_nil] at q3; exact q3) q4 (fun us h => hK9 us (Or.inr (Or.inr (Or.inr ⟨hb.1, hb.2, hns, g2, h⟩))))) 1 0 mem218 (u + 1) (Nat.zero_le _) (by omega) (by omega) (by simp only [kl, List.append_nil]; exact hx218.1) ((c8.trans hx218.2).mono (by decide))
                                | exact J230 K T xs ys m2 H9 ue ve v _ _ i j (xs.length - i) (ys.length - j) es _ _ eue eve c6 (by omega) (by omega) (by omega) (by omega) (by omega) (fun m3 u3 v3 o3 q1 q2 q3 q4 => ih (i + (xs.length - i)) (j + (ys.length - j)) m3 _ u3 v3 _ _ _ _ _ (by omega) (by omega) (by omega) (by simp only [List.length_append, kl_len]; omega) (by omega) (by omega) q3 q4 (fun us h => hK9 us (Or.inl ⟨by omega, cmR_end h (by omega) (by omega)⟩))) (xs.length - i + 1) 0 m1 u (Nat.zero_le _) (by omega) (by omega) (by simp only [kl, List.append_nil]; exact c7) c8
                              · exfalso; omega
                      · refine g_goto (tgt := 146) hC dX10_compare_142 (by decide) ?_
                        refine g_istore hC dX10_compare_146 (Nat.le_of_ble_eq_true rfl) ?_
                        dsimp only [List.set]
                        refine g_iload hC dX10_compare_148 rfl ?_
                        refine g_if_eq (tgt := 161) hC dX10_compare_150 (by decide) ⟨by omega, by omega⟩ (fun h150 => ?_) (fun h150 => ?_)
                        · exfalso; omega
                        · refine g_iload hC dX10_compare_153 rfl ?_
                          refine g_bipush hC dX10_compare_155 (by decide +kernel) ?_
                          refine g_irem hC dX10_compare_157 (by omega) (by omega) (by omega) (by omega) ?_
                          refine g_goto (tgt := 165) hC dX10_compare_158 (by decide) ?_
                          refine g_istore hC dX10_compare_165 (Nat.le_of_ble_eq_true rfl) ?_
                          dsimp only [List.set]
                          refine g_iload hC dX10_compare_167 rfl ?_
                          refine g_if_eq (tgt := 186) hC dX10_compare_169 (by decide) ⟨by omega, by omega⟩ (fun h169 => ?_) (fun h169 => ?_)
                          · exfalso; omega
                          · refine g_iload hC dX10_compare_172 rfl ?_
                            refine g_bipush hC dX10_compare_174 (by decide +kernel) ?_
                            refine g_idiv hC dX10_compare_176 (by omega) (by omega) (by omega) (by omega) ?_
                            refine g_iload hC dX10_compare_177 rfl ?_
                            refine g_bipush hC dX10_compare_179 (by decide +kernel) ?_
                            refine g_irem hC dX10_compare_181 (by omega) (by omega) (by omega) (by omega) ?_
                            refine g_isub hC dX10_compare_182 ?_
                            refine g_goto (tgt := 191) hC dX10_compare_183 (by decide) ?_
                            refine g_istore hC dX10_compare_191 (Nat.le_of_ble_eq_true rfl) ?_
                            dsimp only [List.set]
                            refine g_iload hC dX10_compare_193 rfl ?_
                            refine g_if_eq (tgt := 227) hC dX10_compare_195 (by decide) ⟨by omega, by omega⟩ (fun h195 => ?_) (fun h195 => ?_)
                            · exfalso; omega
                            · refine g_iload hC dX10_compare_198 rfl ?_
                              refine g_if_ne (tgt := 227) hC dX10_compare_200 (by decide) ⟨by omega, by omega⟩ (fun h200 => ?_) (fun h200 => ?_)
                              · exfalso; omega
                              · have nx := hn1.nu hb.1 c5
                                have ny := hn2.nu hb.2 c6
                                refine g_aload_n hC dX10_compare_203 rfl ?_
                                refine g_iconst hC dX10_compare_204 ?_
                                refine g_aload_n hC dX10_compare_205 rfl ?_
                                refine g_getR hC fdX10_26 (by assumption) (by assumption) dX10_compare_206 ?_
                                refine g_iload_n hC dX10_compare_209 rfl ?_
                                refine g_iald hC (by assumption) (by omega) (by omega) (by decide) dX10_compare_210 ?_
                                rw [nx]
                                refine g_aload_n hC dX10_compare_211 rfl ?_
                                refine g_getR hC fdX10_26 (by assumption) (by assumption) dX10_compare_212 ?_
                                refine g_iload hC dX10_compare_215 rfl ?_
                                refine g_iald hC (by assumption) (by omega) (by omega) (by decide) dX10_compare_217 ?_
                                rw [ny]
                                refine g_VV hC (kX10_differs (gl X) (gD X) (gac X) m B es lk 3 (nu xs i) (nu ys j) hM9 c7 (by omega)) cvX10_differs lkX10_175 (by assumption) rfl rfl (Nat.le_of_ble_eq_true rfl) (hI.fit (Nat.le_of_ble_eq_true rfl) (Nat.le_of_ble_eq_true rfl) (Nat.le_of_ble_eq_true rfl)) dX10_compare_218 (fun mem218 hx218 => ?_)
                                refine g_iinc hC dX10_compare_221 rfl ?_
                                dsimp only [List.set]
                                refine g_iinc hC dX10_compare_224 rfl ?_
                                dsimp only [List.set]
                                refine g_iconst hC dX10_compare_227 ?_
                                refine g_istore hC dX10_compare_228 (Nat.le_of_ble_eq_true rfl) ?_
                                dsimp only [List.set]
                                first
                                | (refine ih (k + 1) mem246 (u + 1) (by omega) (by omega) (by omega) ?_ ((c5.trans hx246.2).mono (by decide))
                                   rw [kl, ← List.append_assoc]
                                   exact hx246.1)
                                | exact J230 K T xs ys m2 H9 ue ve v _ _ i j p.2 (p.1 - p.2) es _ _ eue eve c6 (by omega) (by omega) (by omega) (by omega) (by omega) (fun m3 u3 v3 o3 q1 q2 q3 q4 => ih (i + p.2) (j + (p.1 - p.2)) m3 _ u3 v3 _ _ _ _ _ (by omega) (by omega) (by omega) (by simp only [List.length_append, kl_len]; omega) (by omega) (by omega) q3 q4 (fun us h => hK9 us (Or.inr (Or.inr (Or.inl ⟨hb.1, hb.2, hns, p, hp, h⟩))))) (p.2 + 1) 0 m1 u (Nat.zero_le _) (by omega) (by omega) (by simp only [kl, List.append_nil]; exact c7) c8
                                | exact J230 K T xs ys m2 H9 ue ve (v + 1) _ _ (i + 1) (j + 1) 0 0 (es ++ [(3, nu xs i, nu ys j)]) _ _ eue eve (by omega) (by omega) (by omega) (by omega) (by omega) (by simp only [List.length_append, List.length_cons, List.length_nil]; omega) (fun m3 u3 v3 o3 q1 q2 q3 q4 => ih (i + 1) (j + 1) m3 _ u3 v3 _ _ _ _ _ (by omega) (by omega) (by omega) (by simp only [List.length_append, List.length_cons, List.length_nil]; omega) (by omega) (by omega) (by simp only [kl, List.append_nil] at q3; exact q3) q4 (fun us h => hK9 us (Or.inr (Or.inr (Or.inr ⟨hb.1, hb.2, hns, g2, h⟩))))) 1 0 mem218 (u + 1) (Nat.zero_le _) (by omega) (by omega) (by simp only [kl, List.append_nil]; exact hx218.1) ((c8.trans hx218.2).mono (by decide))
                                | exact J230 K T xs ys m2 H9 ue ve v _ _ i j (xs.length - i) (ys.length - j) es _ _ eue eve c6 (by omega) (by omega) (by omega) (by omega) (by omega) (fun m3 u3 v3 o3 q1 q2 q3 q4 => ih (i + (xs.length - i)) (j + (ys.length - j)) m3 _ u3 v3 _ _ _ _ _ (by omega) (by omega) (by omega) (by simp only [List.length_append, kl_len]; omega) (by omega) (by omega) q3 q4 (fun us h => hK9 us (Or.inl ⟨by omega, cmR_end h (by omega) (by omega)⟩))) (xs.length - i + 1) 0 m1 u (Nat.zero_le _) (by omega) (by omega) (by simp only [kl, List.append_nil]; exact c7) c8
              · refine g_iinc hC dX10_compare_97 rfl ?_
                dsimp only [List.set]
                refine g_iinc hC dX10_compare_100 rfl ?_
                dsimp only [List.set]
                refine g_goto (tgt := 61) hC dX10_compare_103 (by decide) ?_
                first
                | (obtain rfl : k = n := by omega
                   exact K9 m1 v _ c3 c4 c5)
                | (refine ih (i + 1) (j + 1) m1 es (u + 1) (v + 1) _ _ _ _ _ (by omega) (by omega) (by omega) (by omega) (by omega) (by omega) c7 c8 (fun us h => hK9 us (Or.inr (Or.inl ⟨by omega, by omega, ?_, h⟩)))
                   rcases hx91 with ⟨-, z⟩ | ⟨z, -⟩
                   · exact z
                   · exfalso; omega)
                | exact J61 p q K T p.2.2 q.2.2 mem2 _ _ ep eq rfl rfl ⟨⟨by omega, by omega⟩, ⟨by omega, by omega⟩, okp, okq, lp, lq⟩ cm2 (by omega) (by omega) 100 0 0 mem2 [] _ _ _ _ _ _ _ (by omega) (Nat.zero_le _) (Nat.zero_le _) (by simp) (by omega) (by omega) vd2 chF.rf0 (fun us h => h)
        · exfalso; omega
      · refine g_iload hC dX10_compare_62 rfl ?_
        refine g_icmp_lt (tgt := 74) hC dX10_compare_64 (by decide) ⟨by omega, by omega⟩ ⟨by omega, by omega⟩ (fun h64 => ?_) (fun h64 => ?_)
        · refine g_iload_n hC dX10_compare_74 rfl ?_
          refine g_iload hC dX10_compare_75 rfl ?_
          refine g_icmp_ge (tgt := 106) hC dX10_compare_77 (by decide) ⟨by omega, by omega⟩ ⟨by omega, by omega⟩ (fun h77 => ?_) (fun h77 => ?_)
          · exfalso; omega
          · refine g_iload hC dX10_compare_80 rfl ?_
            refine g_iload hC dX10_compare_82 rfl ?_
            refine g_icmp_ge (tgt := 106) hC dX10_compare_84 (by decide) ⟨by omega, by omega⟩ ⟨by omega, by omega⟩ (fun h84 => ?_) (fun h84 => ?_)
            · have hns : i < xs.length ∧ j < ys.length → sg xs i ≠ sg ys j := fun q => by
                first
                | (exfalso; omega)
                | (rcases hx91 with ⟨z, -⟩ | ⟨-, z⟩
                   · exfalso; omega
                   · exact z)
              refine g_iload_n hC dX10_compare_106 rfl ?_
              refine g_iload hC dX10_compare_107 rfl ?_
              refine g_icmp_ge (tgt := 123) hC dX10_compare_109 (by decide) ⟨by omega, by omega⟩ ⟨by omega, by omega⟩ (fun h109 => ?_) (fun h109 => ?_)
              · exfalso; omega
              · refine g_iload hC dX10_compare_112 rfl ?_
                refine g_iload hC dX10_compare_114 rfl ?_
                refine g_icmp_ge (tgt := 123) hC dX10_compare_116 (by decide) ⟨by omega, by omega⟩ ⟨by omega, by omega⟩ (fun h116 => ?_) (fun h116 => ?_)
                · refine g_iconst hC dX10_compare_123 ?_
                  refine g_istore hC dX10_compare_124 (Nat.le_of_ble_eq_true rfl) ?_
                  dsimp only [List.set]
                  refine g_iload hC dX10_compare_126 rfl ?_
                  refine g_if_eq (tgt := 145) hC dX10_compare_128 (by decide) ⟨by omega, by omega⟩ (fun h128 => ?_) (fun h128 => ?_)
                  · refine g_iconst hC dX10_compare_145 ?_
                    refine g_istore hC dX10_compare_146 (Nat.le_of_ble_eq_true rfl) ?_
                    dsimp only [List.set]
                    refine g_iload hC dX10_compare_148 rfl ?_
                    refine g_if_eq (tgt := 161) hC dX10_compare_150 (by decide) ⟨by omega, by omega⟩ (fun h150 => ?_) (fun h150 => ?_)
                    · refine g_iload hC dX10_compare_161 rfl ?_
                      refine g_iload_n hC dX10_compare_163 rfl ?_
                      refine g_isub hC dX10_compare_164 ?_
                      refine g_istore hC dX10_compare_165 (Nat.le_of_ble_eq_true rfl) ?_
                      dsimp only [List.set]
                      refine g_iload hC dX10_compare_167 rfl ?_
                      refine g_if_eq (tgt := 186) hC dX10_compare_169 (by decide) ⟨by omega, by omega⟩ (fun h169 => ?_) (fun h169 => ?_)
                      · refine g_iload hC dX10_compare_186 rfl ?_
                        refine g_iload hC dX10_compare_188 rfl ?_
                        refine g_isub hC dX10_compare_190 ?_
                        refine g_istore hC dX10_compare_191 (Nat.le_of_ble_eq_true rfl) ?_
                        dsimp only [List.set]
                        refine g_iload hC dX10_compare_193 rfl ?_
                        refine g_if_eq (tgt := 227) hC dX10_compare_195 (by decide) ⟨by omega, by omega⟩ (fun h195 => ?_) (fun h195 => ?_)
                        · refine g_iconst hC dX10_compare_227 ?_
                          refine g_istore hC dX10_compare_228 (Nat.le_of_ble_eq_true rfl) ?_
                          dsimp only [List.set]
                          first
                          | (refine ih (k + 1) mem246 (u + 1) (by omega) (by omega) (by omega) ?_ ((c5.trans hx246.2).mono (by decide))
                             rw [kl, ← List.append_assoc]
                             exact hx246.1)
                          | exact J230 K T xs ys m2 H9 ue ve v _ _ i j p.2 (p.1 - p.2) es _ _ eue eve c6 (by omega) (by omega) (by omega) (by omega) (by omega) (fun m3 u3 v3 o3 q1 q2 q3 q4 => ih (i + p.2) (j + (p.1 - p.2)) m3 _ u3 v3 _ _ _ _ _ (by omega) (by omega) (by omega) (by simp only [List.length_append, kl_len]; omega) (by omega) (by omega) q3 q4 (fun us h => hK9 us (Or.inr (Or.inr (Or.inl ⟨hb.1, hb.2, hns, p, hp, h⟩))))) (p.2 + 1) 0 m1 u (Nat.zero_le _) (by omega) (by omega) (by simp only [kl, List.append_nil]; exact c7) c8
                          | exact J230 K T xs ys m2 H9 ue ve (v + 1) _ _ (i + 1) (j + 1) 0 0 (es ++ [(3, nu xs i, nu ys j)]) _ _ eue eve (by omega) (by omega) (by omega) (by omega) (by omega) (by simp only [List.length_append, List.length_cons, List.length_nil]; omega) (fun m3 u3 v3 o3 q1 q2 q3 q4 => ih (i + 1) (j + 1) m3 _ u3 v3 _ _ _ _ _ (by omega) (by omega) (by omega) (by simp only [List.length_append, List.length_cons, List.length_nil]; omega) (by omega) (by omega) (by simp only [kl, List.append_nil] at q3; exact q3) q4 (fun us h => hK9 us (Or.inr (Or.inr (Or.inr ⟨hb.1, hb.2, hns, g2, h⟩))))) 1 0 mem218 (u + 1) (Nat.zero_le _) (by omega) (by omega) (by simp only [kl, List.append_nil]; exact hx218.1) ((c8.trans hx218.2).mono (by decide))
                          | exact J230 K T xs ys m2 H9 ue ve v _ _ i j (xs.length - i) (ys.length - j) es _ _ eue eve c6 (by omega) (by omega) (by omega) (by omega) (by omega) (fun m3 u3 v3 o3 q1 q2 q3 q4 => ih (i + (xs.length - i)) (j + (ys.length - j)) m3 _ u3 v3 _ _ _ _ _ (by omega) (by omega) (by omega) (by simp only [List.length_append, kl_len]; omega) (by omega) (by omega) q3 q4 (fun us h => hK9 us (Or.inl ⟨by omega, cmR_end h (by omega) (by omega)⟩))) (xs.length - i + 1) 0 m1 u (Nat.zero_le _) (by omega) (by omega) (by simp only [kl, List.append_nil]; exact c7) c8
                        · exfalso; omega
                      · exfalso; omega
                    · exfalso; omega
                  · exfalso; omega
                · exfalso; omega
            · exfalso; omega
        · exfalso; omega
      · refine g_iload hC dX10_compare_62 rfl ?_
        refine g_icmp_lt (tgt := 74) hC dX10_compare_64 (by decide) ⟨by omega, by omega⟩ ⟨by omega, by omega⟩ (fun h64 => ?_) (fun h64 => ?_)
        · exfalso; omega
        · refine g_iload hC dX10_compare_67 rfl ?_
          refine g_iload hC dX10_compare_69 rfl ?_
          refine g_icmp_ge (tgt := 293) hC dX10_compare_71 (by decide) ⟨by omega, by omega⟩ ⟨by omega, by omega⟩ (fun h71 => ?_) (fun h71 => ?_)
          · exfalso; omega
          · refine g_iload_n hC dX10_compare_74 rfl ?_
            refine g_iload hC dX10_compare_75 rfl ?_
            refine g_icmp_ge (tgt := 106) hC dX10_compare_77 (by decide) ⟨by omega, by omega⟩ ⟨by omega, by omega⟩ (fun h77 => ?_) (fun h77 => ?_)
            · have hns : i < xs.length ∧ j < ys.length → sg xs i ≠ sg ys j := fun q => by
                first
                | (exfalso; omega)
                | (rcases hx91 with ⟨z, -⟩ | ⟨-, z⟩
                   · exfalso; omega
                   · exact z)
              refine g_iload_n hC dX10_compare_106 rfl ?_
              refine g_iload hC dX10_compare_107 rfl ?_
              refine g_icmp_ge (tgt := 123) hC dX10_compare_109 (by decide) ⟨by omega, by omega⟩ ⟨by omega, by omega⟩ (fun h109 => ?_) (fun h109 => ?_)
              · refine g_iconst hC dX10_compare_123 ?_
                refine g_istore hC dX10_compare_124 (Nat.le_of_ble_eq_true rfl) ?_
                dsimp only [List.set]
                refine g_iload hC dX10_compare_126 rfl ?_
                refine g_if_eq (tgt := 145) hC dX10_compare_128 (by decide) ⟨by omega, by omega⟩ (fun h128 => ?_) (fun h128 => ?_)
                · refine g_iconst hC dX10_compare_145 ?_
                  refine g_istore hC dX10_compare_146 (Nat.le_of_ble_eq_true rfl) ?_
                  dsimp only [List.set]
                  refine g_iload hC dX10_compare_148 rfl ?_
                  refine g_if_eq (tgt := 161) hC dX10_compare_150 (by decide) ⟨by omega, by omega⟩ (fun h150 => ?_) (fun h150 => ?_)
                  · refine g_iload hC dX10_compare_161 rfl ?_
                    refine g_iload_n hC dX10_compare_163 rfl ?_
                    refine g_isub hC dX10_compare_164 ?_
                    refine g_istore hC dX10_compare_165 (Nat.le_of_ble_eq_true rfl) ?_
                    dsimp only [List.set]
                    refine g_iload hC dX10_compare_167 rfl ?_
                    refine g_if_eq (tgt := 186) hC dX10_compare_169 (by decide) ⟨by omega, by omega⟩ (fun h169 => ?_) (fun h169 => ?_)
                    · refine g_iload hC dX10_compare_186 rfl ?_
                      refine g_iload hC dX10_compare_188 rfl ?_
                      refine g_isub hC dX10_compare_190 ?_
                      refine g_istore hC dX10_compare_191 (Nat.le_of_ble_eq_true rfl) ?_
                      dsimp only [List.set]
                      refine g_iload hC dX10_compare_193 rfl ?_
                      refine g_if_eq (tgt := 227) hC dX10_compare_195 (by decide) ⟨by omega, by omega⟩ (fun h195 => ?_) (fun h195 => ?_)
                      · refine g_iconst hC dX10_compare_227 ?_
                        refine g_istore hC dX10_compare_228 (Nat.le_of_ble_eq_true rfl) ?_
                        dsimp only [List.set]
                        first
                        | (refine ih (k + 1) mem246 (u + 1) (by omega) (by omega) (by omega) ?_ ((c5.trans hx246.2).mono (by decide))
                           rw [kl, ← List.append_assoc]
                           exact hx246.1)
                        | exact J230 K T xs ys m2 H9 ue ve v _ _ i j p.2 (p.1 - p.2) es _ _ eue eve c6 (by omega) (by omega) (by omega) (by omega) (by omega) (fun m3 u3 v3 o3 q1 q2 q3 q4 => ih (i + p.2) (j + (p.1 - p.2)) m3 _ u3 v3 _ _ _ _ _ (by omega) (by omega) (by omega) (by simp only [List.length_append, kl_len]; omega) (by omega) (by omega) q3 q4 (fun us h => hK9 us (Or.inr (Or.inr (Or.inl ⟨hb.1, hb.2, hns, p, hp, h⟩))))) (p.2 + 1) 0 m1 u (Nat.zero_le _) (by omega) (by omega) (by simp only [kl, List.append_nil]; exact c7) c8
                        | exact J230 K T xs ys m2 H9 ue ve (v + 1) _ _ (i + 1) (j + 1) 0 0 (es ++ [(3, nu xs i, nu ys j)]) _ _ eue eve (by omega) (by omega) (by omega) (by omega) (by omega) (by simp only [List.length_append, List.length_cons, List.length_nil]; omega) (fun m3 u3 v3 o3 q1 q2 q3 q4 => ih (i + 1) (j + 1) m3 _ u3 v3 _ _ _ _ _ (by omega) (by omega) (by omega) (by simp only [List.length_append, List.length_cons, List.length_nil]; omega) (by omega) (by omega) (by simp only [kl, List.append_nil] at q3; exact q3) q4 (fun us h => hK9 us (Or.inr (Or.inr (Or.inr ⟨hb.1, hb.2, hns, g2, h⟩))))) 1 0 mem218 (u + 1) (Nat.zero_le _) (by omega) (by omega) (by simp only [kl, List.append_nil]; exact hx218.1) ((c8.trans hx218.2).mono (by decide))
                        | exact J230 K T xs ys m2 H9 ue ve v _ _ i j (xs.length - i) (ys.length - j) es _ _ eue eve c6 (by omega) (by omega) (by omega) (by omega) (by omega) (fun m3 u3 v3 o3 q1 q2 q3 q4 => ih (i + (xs.length - i)) (j + (ys.length - j)) m3 _ u3 v3 _ _ _ _ _ (by omega) (by omega) (by omega) (by simp only [List.length_append, kl_len]; omega) (by omega) (by omega) q3 q4 (fun us h => hK9 us (Or.inl ⟨by omega, cmR_end h (by omega) (by omega)⟩))) (xs.length - i + 1) 0 m1 u (Nat.zero_le _) (by omega) (by omega) (by simp only [kl, List.append_nil]; exact c7) c8
                      · exfalso; omega
                    · exfalso; omega
                  · exfalso; omega
                · exfalso; omega
              · exfalso; omega
            · exfalso; omega
      · refine g_iload hC dX10_compare_62 rfl ?_
        refine g_icmp_lt (tgt := 74) hC dX10_compare_64 (by decide) ⟨by omega, by omega⟩ ⟨by omega, by omega⟩ (fun h64 => ?_) (fun h64 => ?_)
        · exfalso; omega
        · refine g_iload hC dX10_compare_67 rfl ?_
          refine g_iload hC dX10_compare_69 rfl ?_
          refine g_icmp_ge (tgt := 293) hC dX10_compare_71 (by decide) ⟨by omega, by omega⟩ ⟨by omega, by omega⟩ (fun h71 => ?_) (fun h71 => ?_)
          · refine g_aload_n hC dX10_compare_293 rfl ?_
            refine g_getI hC fdX10_164 (by assumption) dX10_compare_294 ?_
            refine g_iret hC hI rfl dX10_compare_297 (Nat.le_of_ble_eq_true rfl) (Nat.le_of_ble_eq_true rfl) ⟨rfl, rfl, _, rfl, ?_⟩
            right
            subst exs eys
            have fin := hK9 es (Or.inl ⟨by omega, by rw [show p0.2.2.length - i = 0 by omega, show q0.2.2.length - j = 0 by omega]; simp [kl]⟩)
            have a4 := cm2.trans c8
            exact ⟨p0, q0, es, ep0, eq0, fin, c7.1, ⟨hvL.st a4 (by decide), hvM.st a4 (by decide), hvS.st a4 (by decide), hvC.st a4 (by decide), c7, hvO.st a4 (by decide), hvI.st a4 (by decide), hvT.st a4 (by decide)⟩, chA.trans hc0.2 a4.2⟩
          · exfalso; omega
  refine g_aload_n hC dX10_compare_0 rfl ?_
  refine g_iconst hC dX10_compare_1 ?_
  refine g_putI hC fdX10_84 (by assumption) rfl rfl dX10_compare_2 ?_
  rw [← e0]
  refine g_aload_n hC dX10_compare_5 rfl ?_
  refine g_iload_n hC dX10_compare_6 rfl ?_
  refine g_VP hC (kX10_isMember (gl X) (gD X) (gac X) m B ms a hM9 hvM kM i_a) cvX10_isMember lkX10_114 (by assumption) rfl rfl (Nat.le_of_ble_eq_true rfl) (hI.fit (Nat.le_of_ble_eq_true rfl) (Nat.le_of_ble_eq_true rfl) (Nat.le_of_ble_eq_true rfl)) dX10_compare_7 (fun x7 hx7 => ?_)
  refine g_if_eq (tgt := 21) hC dX10_compare_10 (by decide) ⟨by omega, by omega⟩ (fun h10 => ?_) (fun h10 => ?_)
  · refine g_bipush hC dX10_compare_21 (by decide +kernel) ?_
    refine g_iret hC hI rfl dX10_compare_23 (Nat.le_of_ble_eq_true rfl) (Nat.le_of_ble_eq_true rfl) ⟨rfl, rfl, _, rfl, ?_⟩
    left
    refine ⟨?_, rfl, ⟨hV9, hc0.2⟩⟩
    first
    | (left; rcases hx7 with ⟨w, -⟩ | ⟨-, w⟩; omega; exact w)
    | (right; rcases hx15 with ⟨w, -⟩ | ⟨-, w⟩; omega; exact w)
  · refine g_aload_n hC dX10_compare_13 rfl ?_
    refine g_iload_n hC dX10_compare_14 rfl ?_
    refine g_VP hC (kX10_isMember (gl X) (gD X) (gac X) m B ms b hM9 hvM kM i_b) cvX10_isMember lkX10_114 (by assumption) rfl rfl (Nat.le_of_ble_eq_true rfl) (hI.fit (Nat.le_of_ble_eq_true rfl) (Nat.le_of_ble_eq_true rfl) (Nat.le_of_ble_eq_true rfl)) dX10_compare_15 (fun x15 hx15 => ?_)
    refine g_if_ne (tgt := 24) hC dX10_compare_18 (by decide) ⟨by omega, by omega⟩ (fun h18 => ?_) (fun h18 => ?_)
    · have qa : memAt ms a ≠ none := by
        rcases hx7 with ⟨-, w⟩ | ⟨w, -⟩
        · exact w
        · omega
      have qb : memAt ms b ≠ none := by
        rcases hx15 with ⟨-, w⟩ | ⟨w, -⟩
        · exact w
        · omega
      obtain ⟨p, ep⟩ := Option.ne_none_iff_exists'.mp qa
      obtain ⟨q, eq⟩ := Option.ne_none_iff_exists'.mp qb
      obtain ⟨K, eK, K1, K2, K3, hLK⟩ := memAt_view2 hvM ep
      obtain ⟨T, eT, T1, T2, T3, hLT⟩ := memAt_view2 hvM eq
      have kk1 := kM.1
      have okp := (kM.2 _ _ K3).2.2.2.2
      have okq := (kM.2 _ _ T3).2.2.2.2
      refine g_aload_n hC dX10_compare_24 rfl ?_
      refine g_iconst hC dX10_compare_25 ?_
      refine g_putI hC fdX10_164 (by assumption) rfl rfl dX10_compare_26 ?_
      obtain ⟨mem2, e2⟩ : ∃ q, q = gup mem0 m 23 0 := ⟨_, rfl⟩
      rw [← e2]
      have cm2 : chF m B mem0 mem2 [23] := by rw [e2]; exact chF.fld hmB
      have vd2 : vD m B mem2 [] lk := ⟨by rw [e2, gup_s]; rfl, by rw [(cm2.1 24 (by decide)).1]; exact hvD.2.1, fun j hj => absurd hj (Nat.not_lt_zero j)⟩
      have lp := hLK.st cm2 (by decide) (by decide) (by decide) (by decide)
      have lq := hLT.st cm2 (by decide) (by decide) (by decide) (by decide)
      have l7 : mem2 (B 7) a.toNat = p.2.2.length := by rw [eK]; exact lp.1
      have l8 : mem2 (B 7) b.toNat = q.2.2.length := by rw [eT]; exact lq.1
      have op1 := okp.1
      have oq1 := okq.1
      refine g_bipush hC dX10_compare_29 (by decide +kernel) ?_
      refine g_iload_n hC dX10_compare_31 rfl ?_
      refine g_imul hC dX10_compare_32 ?_
      refine g_istore_n hC 3 rfl dX10_compare_33 (Nat.le_of_ble_eq_true rfl) ?_
      dsimp only [List.set]
      refine g_bipush hC dX10_compare_34 (by decide +kernel) ?_
      refine g_iload_n hC dX10_compare_36 rfl ?_
      refine g_imul hC dX10_compare_37 ?_
      refine g_istore hC dX10_compare_38 (Nat.le_of_ble_eq_true rfl) ?_
      dsimp only [List.set]
      refine g_iload_n hC dX10_compare_40 rfl ?_
      refine g_aload_n hC dX10_compare_41 rfl ?_
      refine g_getR hC fdX10_20 (by assumption) (by assumption) dX10_compare_42 ?_
      refine g_iload_n hC dX10_compare_45 rfl ?_
      refine g_iald hC (by assumption) (by omega) (by omega) (by decide) dX10_compare_46 ?_
      refine g_iadd hC dX10_compare_47 ?_
      refine g_istore hC dX10_compare_48 (Nat.le_of_ble_eq_true rfl) ?_
      dsimp only [List.set]
      refine g_iload hC dX10_compare_50 rfl ?_
      refine g_aload_n hC dX10_compare_52 rfl ?_
      refine g_getR hC fdX10_20 (by assumption) (by assumption) dX10_compare_53 ?_
      refine g_iload_n hC dX10_compare_56 rfl ?_
      refine g_iald hC (by assumption) (by omega) (by omega) (by decide) dX10_compare_57 ?_
      refine g_iadd hC dX10_compare_58 ?_
      refine g_istore hC dX10_compare_59 (Nat.le_of_ble_eq_true rfl) ?_
      dsimp only [List.set]
      first
      | (obtain rfl : k = n := by omega
         exact K9 m1 v _ c3 c4 c5)
      | (refine ih (i + 1) (j + 1) m1 es (u + 1) (v + 1) _ _ _ _ _ (by omega) (by omega) (by omega) (by omega) (by omega) (by omega) c7 c8 (fun us h => hK9 us (Or.inr (Or.inl ⟨by omega, by omega, ?_, h⟩)))
         rcases hx91 with ⟨-, z⟩ | ⟨z, -⟩
         · exact z
         · exfalso; omega)
      | exact J61 p q K T p.2.2 q.2.2 mem2 _ _ ep eq rfl rfl ⟨⟨by omega, by omega⟩, ⟨by omega, by omega⟩, okp, okq, lp, lq⟩ cm2 (by omega) (by omega) 100 0 0 mem2 [] _ _ _ _ _ _ _ (by omega) (Nat.zero_le _) (Nat.zero_le _) (by simp) (by omega) (by omega) vd2 chF.rf0 (fun us h => h)
    · refine g_bipush hC dX10_compare_21 (by decide +kernel) ?_
      refine g_iret hC hI rfl dX10_compare_23 (Nat.le_of_ble_eq_true rfl) (Nat.le_of_ble_eq_true rfl) ⟨rfl, rfl, _, rfl, ?_⟩
      left
      refine ⟨?_, rfl, ⟨hV9, hc0.2⟩⟩
      first
      | (left; rcases hx7 with ⟨w, -⟩ | ⟨-, w⟩; omega; exact w)
      | (right; rcases hx15 with ⟨w, -⟩ | ⟨-, w⟩; omega; exact w)
