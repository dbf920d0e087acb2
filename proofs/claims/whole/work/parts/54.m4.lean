section M4
variable {sh : Nat → Nat × Nat} {rf : Nat → Nat → Option Nat} {mem mem1 mem2 : Nat → Nat → Int} {m : Nat} {B : Nat → Nat} {ms ns : List (Option MemT)} {rp : List Int}
def chA (m : Nat) (B : Nat → Nat) (mem mem1 : Nat → Nat → Int) : Prop := ∀ b, b ≠ m → (∀ f, b ≠ B f) → mem1 b = mem b
theorem chA.trans (h : chA m B mem mem1) (k : chA m B mem1 mem2) : chA m B mem mem2 := fun b h1 h2 => (k b h1 h2).trans (h b h1 h2)
theorem okL_nil : okL [] := ⟨Nat.zero_le _, fun j => by
  have h1 : nu [] j = 0 := nu_out (Nat.zero_le _)
  have h2 : sg [] j = [] := sg_out (Nat.zero_le _)
  rw [h1, h2]
  refine ⟨Nat.zero_le _, by decide, by decide, fun i => ?_⟩
  rw [getD_out (Nat.zero_le _)]
  decide⟩
theorem okM_app {l n : Int} {xs : Lns} (h : okM ms) (hl : ms.length < 80) (h1 : 1 ≤ l ∧ l ≤ 6) (h2 : 0 ≤ n ∧ n < 100) (h3 : okL xs) : okM (ms ++ [some (l, n, xs)]) := by
  refine ⟨by simp; omega, fun i x hx => ?_⟩
  rw [getD_appM] at hx
  by_cases e : i = ms.length
  · rw [if_pos e] at hx
    cases hx
    exact ⟨h1.1, h1.2, h2.1, h2.2, h3⟩
  · rw [if_neg e] at hx
    exact h.2 i x hx
theorem okM_set {k : Nat} {x : MemT} {xs : Lns} (h : okM ms) (hx : ms.getD k none = some x) (h3 : okL xs) : okM (ms.set k (some (x.1, x.2.1, xs))) := by
  have hk : k < ms.length := getD_ltM (by rw [hx]; simp)
  refine ⟨by rw [List.length_set]; exact h.1, fun i w hw => ?_⟩
  rw [getD_setM hk] at hw
  by_cases e : i = k
  · rw [if_pos e] at hw
    cases hw
    have q := h.2 k x hx
    exact ⟨q.1, q.2.1, q.2.2.1, q.2.2.2.1, h3⟩
  · rw [if_neg e] at hw
    exact h.2 i w hw
theorem okL_at {k : Int} (h : okM ms) : okL (lnsAt ms k) := by
  unfold lnsAt
  cases e : memAt ms k with
  | none => exact okL_nil
  | some x => exact (h.2 _ x (memAt_some e).2.2).2.2.2.2
theorem okM_cp1 {f n t w : Int} (h : okM ms) (h1 : 1 ≤ t ∧ t ≤ 6) (h2 : 0 ≤ w ∧ w < 100) (hr : memS ms f n ≠ 0 → memS ms t w = 0 → ms.length < 80) : okM (cp1 rp ms f n t w) := by
  unfold cp1
  split
  · exact h
  · next q =>
    split
    · next q2 => exact okM_app h (hr (fun e => q (Or.inl e)) q2) h1 h2 (okL_at h)
    · next q2 =>
      obtain ⟨x, x1, x2, x3⟩ := memS_is q2
      have := okM_set h x1 (okL_at (k := memS ms f n) h)
      rw [x2, x3] at this
      exact this
/-- a member's lines, by its number -/
theorem vM_ln {f n : Int} (h : vM m B mem ms) (hs : memS ms f n ≠ 0) : lnM B mem (memS ms f n) (lnsAt ms (memS ms f n)) ∧ memS ms f n ≤ ms.length := by
  obtain ⟨x, x1, x2, x3⟩ := memS_is hs
  have hlt := getD_ltM (ss := ms) (i := memS ms f n - 1) (by rw [x1]; simp)
  have w := ((h.2.1 _ hlt).2 x x1).2.2.2
  rw [show memS ms f n - 1 + 1 = memS ms f n by omega] at w
  rw [lnsAt_eq (getD_sub x1 (by omega))]
  exact ⟨w, by omega⟩
end M4
set_option maxHeartbeats 4000000 in
set_option maxRecDepth 100000 in
theorem kX10_one (lc : Launch) (D : va_G) (ac : Nat → ClassId) {sh : Nat → Nat × Nat} {rf : Nat → Nat → Option Nat} {mem : Nat → Nat → Int} (m : Nat) (B : Nat → Nat) (rp : List Int) (ms : List (Option MemT)) (f o t n d : Int) (hM : MO sh rf m B) (hvL : vL m B mem rp) (hvM : vM m B mem ms) (kR : okR rp) (kM : okM ms) (hs : memS ms f o ≠ 0) (ht : 1 ≤ t ∧ t ≤ rp.length) (hn : 0 ≤ n ∧ n < 100) (hd : d = 0 ∨ d = 1) (hr : d = 1 → memS ms t n = 0 → ms.length < 80) : gMet lc D ac mX10_one 2 [.ref m, .int (iI (memS ms f o)), .int (iI t), .int (iI n), .int (iI d)] 0 0 sh rf mem (pM sh rf (fun r mem1 => r = (if memS ms t n ≠ memS ms f o ∧ memS ms t n ≠ 0 ∧ ¬ rpl rp t then 4 else 0) ∧ (d = 0 → mem1 = mem) ∧ (d = 1 → vM m B mem1 (cp1 rp ms f o t n) ∧ chF m B mem mem1 [2, 5, 6, 7, 9, 10, 11]))) := by
  refine gMet.mk (by decide) (by intro v hv; simp at hv; (try rcases hv with rfl | rfl | rfl | rfl | rfl) <;> rfl) (Nat.le_of_ble_eq_true rfl) (fun X hC hI => ?_)
  show gG X sh rf mem 0 0 0 [some (.ref m), some (.int (iI (memS ms f o))), some (.int (iI t)), some (.int (iI n)), some (.int (iI d)), none] []
  have hM9 := hM
  obtain ⟨mo, R4, S4, R5, S5, R6, S6, R7, S7, R8, S8, R9, S9, R10, S10, R11, S11, R12, S12, R13, S13, R14, S14, R15, S15, R16, S16, R17, S17, R19, S19, R20, S20, R21, S21, R22, S22, R25, S25, R26, S26, R27, S27, R30, S30, R31, S31, hBe, hBm, hmB⟩ := hM
  have k1 := kM.1
  have k2 := kR.1
  obtain ⟨hLs, hle⟩ := vM_ln hvM hs
  have hle2 := memS_le t n ms
  have w26 : mem (B 4) t.toNat = rp.getD (t - 1).toNat 0 := by
    have := hvL.2 (t - 1).toNat (by omega)
    rw [show (t - 1).toNat + 1 = t.toNat by omega] at this
    exact this
  have w27 := kR.2 (t - 1).toNat (by omega)
  refine g_aload_n hC dX10_one_0 rfl ?_
  refine g_iload_n hC dX10_one_1 rfl ?_
  refine g_iload_n hC dX10_one_2 rfl ?_
  refine g_VP hC (kX10_memberOf (gl X) (gD X) (gac X) m B ms t n hM9 hvM kM ⟨by omega, by omega⟩ ⟨by omega, by omega⟩) cvX10_memberOf lkX10_103 (by assumption) rfl rfl (Nat.le_of_ble_eq_true rfl) (hI.fit (Nat.le_of_ble_eq_true rfl) (Nat.le_of_ble_eq_true rfl) (Nat.le_of_ble_eq_true rfl)) dX10_one_3 (fun x3 hx3 => ?_)
  subst hx3
  refine g_istore hC dX10_one_6 (Nat.le_of_ble_eq_true rfl) ?_
  dsimp only [List.set]
  refine g_iload hC dX10_one_8 rfl ?_
  refine g_iload_n hC dX10_one_10 rfl ?_
  refine g_icmp_ne (tgt := 16) hC dX10_one_11 (by decide) ⟨by omega, by omega⟩ ⟨by omega, by omega⟩ (fun h11 => ?_) (fun h11 => ?_)
  · refine g_iload hC dX10_one_16 rfl ?_
    refine g_if_le (tgt := 32) hC dX10_one_18 (by decide) ⟨by omega, by omega⟩ (fun h18 => ?_) (fun h18 => ?_)
    · refine g_iload hC dX10_one_32 rfl ?_
      refine g_if_ne (tgt := 39) hC dX10_one_34 (by decide) ⟨by omega, by omega⟩ (fun h34 => ?_) (fun h34 => ?_)
      · refine g_aload_n hC dX10_one_39 rfl ?_
        refine g_iload_n hC dX10_one_40 rfl ?_
        refine g_iload hC dX10_one_41 rfl ?_
        refine g_if_le (tgt := 51) hC dX10_one_43 (by decide) ⟨by omega, by omega⟩ (fun h43 => ?_) (fun h43 => ?_)
        · refine g_aload_n hC dX10_one_51 rfl ?_
          refine g_iload_n hC dX10_one_52 rfl ?_
          refine g_iload_n hC dX10_one_53 rfl ?_
          refine g_VM hC (kX10_newMember (gl X) (gD X) (gac X) m B ms t n hM9 hvM (by omega)) cvX10_newMember lkX10_107 (by assumption) rfl rfl (Nat.le_of_ble_eq_true rfl) (hI.fit (Nat.le_of_ble_eq_true rfl) (Nat.le_of_ble_eq_true rfl) (Nat.le_of_ble_eq_true rfl)) dX10_one_54 (fun x54 mem54 hx54 => ?_)
          obtain ⟨rfl, e54⟩ := hx54
          obtain ⟨n1, n2, n3⟩ := vM_new (l := t) (n := n) hBe hBm hmB hvM
          rw [← e54] at n1 n2 n3
          have hL5 : lnM B mem54 (memS ms f o) (lnsAt ms (memS ms f o)) := by
            refine ⟨?_, ?_⟩
            · rw [n3 _ hle]; exact hLs.1
            · rw [(n2.1 9 (by decide)).2, (n2.1 10 (by decide)).2, (n2.1 11 (by decide)).2]; exact hLs.2
          rw [show ((ms.length : Int) + 1) = ((ms.length + 1 : Nat) : Int) by omega]
          refine g_VV hC (kX10_lines (gl X) (gD X) (gac X) m B (memS ms f o) _ (lnsAt ms (memS ms f o)) hM9 hL5 (okL_at kM) (by omega)) cvX10_lines lkX10_144 (by assumption) rfl rfl (Nat.le_of_ble_eq_true rfl) (hI.fit (Nat.le_of_ble_eq_true rfl) (Nat.le_of_ble_eq_true rfl) (Nat.le_of_ble_eq_true rfl)) dX10_one_57 (fun mem57 hx57 => ?_)
          refine g_iconst hC dX10_one_60 ?_
          refine g_iret hC hI rfl dX10_one_61 (Nat.le_of_ble_eq_true rfl) (Nat.le_of_ble_eq_true rfl) ⟨rfl, rfl, _, rfl, ?_⟩
          have cc : ¬ (memS ms t n ≠ memS ms f o ∧ memS ms t n ≠ 0 ∧ ¬ rpl rp t) := by
            rintro ⟨c1, c2, c3⟩
            first | omega | exact c3 ⟨ht.1, ht.2, by omega⟩
          refine ⟨by rw [if_neg cc], fun w => absurd w (by omega), fun _ => ?_⟩
          first
          | (exfalso; omega)
          | (have q2 : memS ms t n = 0 := by omega
             have ok2 := okM_app (xs := []) kM (by omega) ⟨ht.1, by omega⟩ hn okL_nil
             have key := vM_lines (k := ms.length) (x := (t, n, [])) n1 ok2 (by rw [getD_appM, if_pos rfl]) hx57.1 hx57.2.1 hx57.2.2
             rw [set_appM] at key
             rw [cp1_new hs q2]
             exact ⟨key, (n2.trans hx57.2.2).mono (by decide)⟩)
          | (have q2 : memS ms t n ≠ 0 := by omega
             obtain ⟨x, x1, x2, x3⟩ := memS_is q2
             have e9 : memS ms t n - 1 + 1 = memS ms t n := by omega
             have key := vM_lines (k := memS ms t n - 1) (x := x) hvM kM x1 (by rw [e9]; exact hx57.1) (by rw [e9]; exact hx57.2.1) hx57.2.2
             rw [x2, x3] at key
             rw [cp1_set hs (by omega) q2 (by apply Classical.byContradiction; intro w; exact cc ⟨by omega, q2, w⟩)]
             exact ⟨key, hx57.2.2.mono (by decide)⟩)
        · have hL5 := hLs
          refine g_iload hC dX10_one_46 rfl ?_
          refine g_goto (tgt := 57) hC dX10_one_48 (by decide) ?_
          refine g_VV hC (kX10_lines (gl X) (gD X) (gac X) m B (memS ms f o) _ (lnsAt ms (memS ms f o)) hM9 hL5 (okL_at kM) (by omega)) cvX10_lines lkX10_144 (by assumption) rfl rfl (Nat.le_of_ble_eq_true rfl) (hI.fit (Nat.le_of_ble_eq_true rfl) (Nat.le_of_ble_eq_true rfl) (Nat.le_of_ble_eq_true rfl)) dX10_one_57 (fun mem57 hx57 => ?_)
          refine g_iconst hC dX10_one_60 ?_
          refine g_iret hC hI rfl dX10_one_61 (Nat.le_of_ble_eq_true rfl) (Nat.le_of_ble_eq_true rfl) ⟨rfl, rfl, _, rfl, ?_⟩
          have cc : ¬ (memS ms t n ≠ memS ms f o ∧ memS ms t n ≠ 0 ∧ ¬ rpl rp t) := by
            rintro ⟨c1, c2, c3⟩
            first | omega | exact c3 ⟨ht.1, ht.2, by omega⟩
          refine ⟨by rw [if_neg cc], fun w => absurd w (by omega), fun _ => ?_⟩
          first
          | (exfalso; omega)
          | (have q2 : memS ms t n = 0 := by omega
             have ok2 := okM_app (xs := []) kM (by omega) ⟨ht.1, by omega⟩ hn okL_nil
             have key := vM_lines (k := ms.length) (x := (t, n, [])) n1 ok2 (by rw [getD_appM, if_pos rfl]) hx57.1 hx57.2.1 hx57.2.2
             rw [set_appM] at key
             rw [cp1_new hs q2]
             exact ⟨key, (n2.trans hx57.2.2).mono (by decide)⟩)
          | (have q2 : memS ms t n ≠ 0 := by omega
             obtain ⟨x, x1, x2, x3⟩ := memS_is q2
             have e9 : memS ms t n - 1 + 1 = memS ms t n := by omega
             have key := vM_lines (k := memS ms t n - 1) (x := x) hvM kM x1 (by rw [e9]; exact hx57.1) (by rw [e9]; exact hx57.2.1) hx57.2.2
             rw [x2, x3] at key
             rw [cp1_set hs (by omega) q2 (by apply Classical.byContradiction; intro w; exact cc ⟨by omega, q2, w⟩)]
             exact ⟨key, hx57.2.2.mono (by decide)⟩)
      · refine g_iconst hC dX10_one_37 ?_
        refine g_iret hC hI rfl dX10_one_38 (Nat.le_of_ble_eq_true rfl) (Nat.le_of_ble_eq_true rfl) ⟨rfl, rfl, _, rfl, ?_⟩
        have cc : ¬ (memS ms t n ≠ memS ms f o ∧ memS ms t n ≠ 0 ∧ ¬ rpl rp t) := by
          rintro ⟨c1, c2, c3⟩
          first | omega | exact c3 ⟨ht.1, ht.2, by omega⟩
        refine ⟨?_, fun _ => rfl, fun w => absurd w (by omega)⟩
        rw [if_neg cc]
    · refine g_aload_n hC dX10_one_21 rfl ?_
      refine g_getR hC fdX10_7 (by assumption) (by assumption) dX10_one_22 ?_
      refine g_iload_n hC dX10_one_25 rfl ?_
      refine g_zald hC (by assumption) (by omega) (by omega) (by decide) dX10_one_26 ?_
      refine g_if_ne (tgt := 32) hC dX10_one_27 (by decide) ⟨by omega, by omega⟩ (fun h27 => ?_) (fun h27 => ?_)
      · refine g_iload hC dX10_one_32 rfl ?_
        refine g_if_ne (tgt := 39) hC dX10_one_34 (by decide) ⟨by omega, by omega⟩ (fun h34 => ?_) (fun h34 => ?_)
        · refine g_aload_n hC dX10_one_39 rfl ?_
          refine g_iload_n hC dX10_one_40 rfl ?_
          refine g_iload hC dX10_one_41 rfl ?_
          refine g_if_le (tgt := 51) hC dX10_one_43 (by decide) ⟨by omega, by omega⟩ (fun h43 => ?_) (fun h43 => ?_)
          · refine g_aload_n hC dX10_one_51 rfl ?_
            refine g_iload_n hC dX10_one_52 rfl ?_
            refine g_iload_n hC dX10_one_53 rfl ?_
            refine g_VM hC (kX10_newMember (gl X) (gD X) (gac X) m B ms t n hM9 hvM (by omega)) cvX10_newMember lkX10_107 (by assumption) rfl rfl (Nat.le_of_ble_eq_true rfl) (hI.fit (Nat.le_of_ble_eq_true rfl) (Nat.le_of_ble_eq_true rfl) (Nat.le_of_ble_eq_true rfl)) dX10_one_54 (fun x54 mem54 hx54 => ?_)
            obtain ⟨rfl, e54⟩ := hx54
            obtain ⟨n1, n2, n3⟩ := vM_new (l := t) (n := n) hBe hBm hmB hvM
            rw [← e54] at n1 n2 n3
            have hL5 : lnM B mem54 (memS ms f o) (lnsAt ms (memS ms f o)) := by
              refine ⟨?_, ?_⟩
              · rw [n3 _ hle]; exact hLs.1
              · rw [(n2.1 9 (by decide)).2, (n2.1 10 (by decide)).2, (n2.1 11 (by decide)).2]; exact hLs.2
            rw [show ((ms.length : Int) + 1) = ((ms.length + 1 : Nat) : Int) by omega]
            refine g_VV hC (kX10_lines (gl X) (gD X) (gac X) m B (memS ms f o) _ (lnsAt ms (memS ms f o)) hM9 hL5 (okL_at kM) (by omega)) cvX10_lines lkX10_144 (by assumption) rfl rfl (Nat.le_of_ble_eq_true rfl) (hI.fit (Nat.le_of_ble_eq_true rfl) (Nat.le_of_ble_eq_true rfl) (Nat.le_of_ble_eq_true rfl)) dX10_one_57 (fun mem57 hx57 => ?_)
            refine g_iconst hC dX10_one_60 ?_
            refine g_iret hC hI rfl dX10_one_61 (Nat.le_of_ble_eq_true rfl) (Nat.le_of_ble_eq_true rfl) ⟨rfl, rfl, _, rfl, ?_⟩
            have cc : ¬ (memS ms t n ≠ memS ms f o ∧ memS ms t n ≠ 0 ∧ ¬ rpl rp t) := by
              rintro ⟨c1, c2, c3⟩
              first | omega | exact c3 ⟨ht.1, ht.2, by omega⟩
            refine ⟨by rw [if_neg cc], fun w => absurd w (by omega), fun _ => ?_⟩
            first
            | (exfalso; omega)
            | (have q2 : memS ms t n = 0 := by omega
               have ok2 := okM_app (xs := []) kM (by omega) ⟨ht.1, by omega⟩ hn okL_nil
               have key := vM_lines (k := ms.length) (x := (t, n, [])) n1 ok2 (by rw [getD_appM, if_pos rfl]) hx57.1 hx57.2.1 hx57.2.2
               rw [set_appM] at key
               rw [cp1_new hs q2]
               exact ⟨key, (n2.trans hx57.2.2).mono (by decide)⟩)
            | (have q2 : memS ms t n ≠ 0 := by omega
               obtain ⟨x, x1, x2, x3⟩ := memS_is q2
               have e9 : memS ms t n - 1 + 1 = memS ms t n := by omega
               have key := vM_lines (k := memS ms t n - 1) (x := x) hvM kM x1 (by rw [e9]; exact hx57.1) (by rw [e9]; exact hx57.2.1) hx57.2.2
               rw [x2, x3] at key
               rw [cp1_set hs (by omega) q2 (by apply Classical.byContradiction; intro w; exact cc ⟨by omega, q2, w⟩)]
               exact ⟨key, hx57.2.2.mono (by decide)⟩)
          · have hL5 := hLs
            refine g_iload hC dX10_one_46 rfl ?_
            refine g_goto (tgt := 57) hC dX10_one_48 (by decide) ?_
            refine g_VV hC (kX10_lines (gl X) (gD X) (gac X) m B (memS ms f o) _ (lnsAt ms (memS ms f o)) hM9 hL5 (okL_at kM) (by omega)) cvX10_lines lkX10_144 (by assumption) rfl rfl (Nat.le_of_ble_eq_true rfl) (hI.fit (Nat.le_of_ble_eq_true rfl) (Nat.le_of_ble_eq_true rfl) (Nat.le_of_ble_eq_true rfl)) dX10_one_57 (fun mem57 hx57 => ?_)
            refine g_iconst hC dX10_one_60 ?_
            refine g_iret hC hI rfl dX10_one_61 (Nat.le_of_ble_eq_true rfl) (Nat.le_of_ble_eq_true rfl) ⟨rfl, rfl, _, rfl, ?_⟩
            have cc : ¬ (memS ms t n ≠ memS ms f o ∧ memS ms t n ≠ 0 ∧ ¬ rpl rp t) := by
              rintro ⟨c1, c2, c3⟩
              first | omega | exact c3 ⟨ht.1, ht.2, by omega⟩
            refine ⟨by rw [if_neg cc], fun w => absurd w (by omega), fun _ => ?_⟩
            first
            | (exfalso; omega)
            | (have q2 : memS ms t n = 0 := by omega
               have ok2 := okM_app (xs := []) kM (by omega) ⟨ht.1, by omega⟩ hn okL_nil
               have key := vM_lines (k := ms.length) (x := (t, n, [])) n1 ok2 (by rw [getD_appM, if_pos rfl]) hx57.1 hx57.2.1 hx57.2.2
               rw [set_appM] at key
               rw [cp1_new hs q2]
               exact ⟨key, (n2.trans hx57.2.2).mono (by decide)⟩)
            | (have q2 : memS ms t n ≠ 0 := by omega
               obtain ⟨x, x1, x2, x3⟩ := memS_is q2
               have e9 : memS ms t n - 1 + 1 = memS ms t n := by omega
               have key := vM_lines (k := memS ms t n - 1) (x := x) hvM kM x1 (by rw [e9]; exact hx57.1) (by rw [e9]; exact hx57.2.1) hx57.2.2
               rw [x2, x3] at key
               rw [cp1_set hs (by omega) q2 (by apply Classical.byContradiction; intro w; exact cc ⟨by omega, q2, w⟩)]
               exact ⟨key, hx57.2.2.mono (by decide)⟩)
        · refine g_iconst hC dX10_one_37 ?_
          refine g_iret hC hI rfl dX10_one_38 (Nat.le_of_ble_eq_true rfl) (Nat.le_of_ble_eq_true rfl) ⟨rfl, rfl, _, rfl, ?_⟩
          have cc : ¬ (memS ms t n ≠ memS ms f o ∧ memS ms t n ≠ 0 ∧ ¬ rpl rp t) := by
            rintro ⟨c1, c2, c3⟩
            first | omega | exact c3 ⟨ht.1, ht.2, by omega⟩
          refine ⟨?_, fun _ => rfl, fun w => absurd w (by omega)⟩
          rw [if_neg cc]
      · refine g_iconst hC dX10_one_30 ?_
        refine g_iret hC hI rfl dX10_one_31 (Nat.le_of_ble_eq_true rfl) (Nat.le_of_ble_eq_true rfl) ⟨rfl, rfl, _, rfl, ?_⟩
        have nr : ¬ rpl rp t := fun w => by have := w.2.2; omega
        refine ⟨?_, fun _ => rfl, fun _ => ⟨?_, chF.rf0⟩⟩
        · rw [if_pos ⟨by omega, by omega, nr⟩]
        · rw [cp1_no (Or.inr (Or.inr ⟨by omega, nr⟩))]; exact hvM
  · refine g_iconst hC dX10_one_14 ?_
    refine g_iret hC hI rfl dX10_one_15 (Nat.le_of_ble_eq_true rfl) (Nat.le_of_ble_eq_true rfl) ⟨rfl, rfl, _, rfl, ?_⟩
    refine ⟨?_, fun _ => rfl, fun _ => ⟨?_, chF.rf0⟩⟩
    · rw [if_neg (by omega)]
    · rw [cp1_no (Or.inr (Or.inl (by omega)))]; exact hvM
set_option maxHeartbeats 4000000 in
set_option maxRecDepth 100000 in
theorem kX10_library (lc : Launch) (D : va_G) (ac : Nat → ClassId) {sh : Nat → Nat × Nat} {rf : Nat → Nat → Option Nat} {mem : Nat → Nat → Int} (m : Nat) (B : Nat → Nat) (rp ex ar : List Int) (ms : List (Option MemT)) (ss : List (Option SetT)) (ch : Lns) (ds : Dfs) (lk : Nat) (g y z : Int) (v : Int) (hM : MO sh rf m B) (hV : MV m B mem rp ms ss ch ds lk ex ar g y z) (kR : okR rp) (hp : v = 0 ∨ v = 1) : gMet lc D ac mX10_library 3 [.ref m, .int (iI v)] 0 0 sh rf mem (pM sh rf (fun r mem1 => r = libR rp ∧ MV m B mem1 (libS rp v) ms ss ch ds lk ex ar g y z ∧ chA m B mem mem1)) := by
  refine gMet.mk (by decide) (by intro v hv; simp at hv; (try rcases hv with rfl | rfl) <;> rfl) (Nat.le_of_ble_eq_true rfl) (fun X hC hI => ?_)
  show gG X sh rf mem 0 0 0 [some (.ref m), some (.int (iI v))] []
  have hM9 := hM
  obtain ⟨mo, R4, S4, R5, S5, R6, S6, R7, S7, R8, S8, R9, S9, R10, S10, R11, S11, R12, S12, R13, S13, R14, S14, R15, S15, R16, S16, R17, S17, R19, S19, R20, S20, R21, S21, R22, S22, R25, S25, R26, S26, R27, S27, R30, S30, R31, S31, hBe, hBm, hmB⟩ := hM
  refine g_aload_n hC dX10_library_0 rfl ?_
  refine g_iconst hC dX10_library_1 ?_
  refine g_putI hC fdX10_84 (by assumption) rfl rfl dX10_library_2 ?_
  obtain ⟨mem0, e0⟩ : ∃ q, q = gup mem m 0 0 := ⟨_, rfl⟩
  rw [← e0]
  obtain ⟨hV0, hc0⟩ := MV.code (v := 0) hmB hV
  rw [← e0] at hV0 hc0
  have hV9 := hV0
  obtain ⟨hvL, hvM, hvS, hvC, hvD, hvO, hvI, hvT⟩ := hV0
  have l1 := hvL.1
  have k1 := kR.1
  refine g_aload_n hC dX10_library_5 rfl ?_
  refine g_getI hC fdX10_87 (by assumption) dX10_library_6 ?_
  refine g_bipush hC dX10_library_9 (by decide +kernel) ?_
  refine g_icmp_ne (tgt := 16) hC dX10_library_11 (by decide) ⟨by omega, by omega⟩ ⟨by omega, by omega⟩ (fun h11 => ?_) (fun h11 => ?_)
  · refine g_aload_n hC dX10_library_16 rfl ?_
    refine g_dup hC dX10_library_17 rfl ?_
    refine g_getI hC fdX10_87 (by assumption) dX10_library_18 ?_
    refine g_iconst hC dX10_library_21 ?_
    refine g_iadd hC dX10_library_22 ?_
    refine g_putI hC fdX10_87 (by assumption) rfl rfl dX10_library_23 ?_
    obtain ⟨mem2, e2⟩ : ∃ q, q = gup mem0 m 1 (mem0 m 1 + 1) := ⟨_, rfl⟩
    rw [← e2]
    have t2 : mem2 m 1 = rp.length + 1 := by rw [e2, gup_s, l1]
    have w2 : (mem2 m 1).toNat = rp.length + 1 := by omega
    refine g_aload_n hC dX10_library_26 rfl ?_
    refine g_getR hC fdX10_7 (by assumption) (by assumption) dX10_library_27 ?_
    refine g_aload_n hC dX10_library_30 rfl ?_
    refine g_getI hC fdX10_87 (by assumption) dX10_library_31 ?_
    refine g_iload_n hC dX10_library_34 rfl ?_
    refine g_zast hC (by assumption) (by omega) (by omega) (by decide) (by omega) dX10_library_35 ?_
    obtain ⟨mem3, e3⟩ : ∃ q, q = gup mem2 (B 4) (mem2 m 1).toNat v := ⟨_, rfl⟩
    rw [← e3]
    have t3 : mem3 m 1 = rp.length + 1 := by rw [e3, gup_a _ _ _ _ (by simp [hmB])]; exact t2
    refine g_aload_n hC dX10_library_36 rfl ?_
    refine g_getI hC fdX10_87 (by assumption) dX10_library_37 ?_
    refine g_iret hC hI rfl dX10_library_40 (Nat.le_of_ble_eq_true rfl) (Nat.le_of_ble_eq_true rfl) ⟨rfl, rfl, _, rfl, ?_⟩
    rw [libR, libS, if_pos (by omega), if_pos (by omega)]
    have c3 : chF m B mem0 mem3 [1, 4] := by rw [e3, e2]; exact ((chF.fld hmB).trans (chF.row hBe hmB)).mono (by decide)
    refine ⟨t3, ⟨⟨by rw [t3]; simp, fun i hi => ?_⟩, hvM.st c3 (by decide), hvS.st c3 (by decide), hvC.st c3 (by decide), hvD.st c3 (by decide), hvO.st c3 (by decide), hvI.st c3 (by decide), hvT.st c3 (by decide)⟩, chA.trans hc0.2 c3.2⟩
    rw [e3, w2, getD_snd]
    by_cases e : i = rp.length
    · rw [e, gup_s, if_pos rfl]
    · rw [gup_k _ _ _ _ (by omega), if_neg e, e2]
      have hi2 : i < rp.length := by simp at hi; omega
      rw [show gup mem0 m 1 (mem0 m 1 + 1) (B 4) (i + 1) = mem0 (B 4) (i + 1) from gup_a _ _ _ _ (by simp [hBm])]
      exact hvL.2 i hi2
  · refine g_iconst hC dX10_library_14 ?_
    refine g_iret hC hI rfl dX10_library_15 (Nat.le_of_ble_eq_true rfl) (Nat.le_of_ble_eq_true rfl) ⟨rfl, rfl, _, rfl, ?_⟩
    rw [libR, libS, if_neg (by omega), if_neg (by omega)]
    exact ⟨rfl, ⟨hV9, hc0.2⟩⟩
set_option maxHeartbeats 4000000 in
set_option maxRecDepth 100000 in
theorem kX10_member (lc : Launch) (D : va_G) (ac : Nat → ClassId) {sh : Nat → Nat × Nat} {rf : Nat → Nat → Option Nat} {mem : Nat → Nat → Int} (m : Nat) (B : Nat → Nat) (rp ex ar : List Int) (ms : List (Option MemT)) (ss : List (Option SetT)) (ch : Lns) (ds : Dfs) (lk : Nat) (g y z : Int) (l n : Int) (hM : MO sh rf m B) (hV : MV m B mem rp ms ss ch ds lk ex ar g y z) (kR : okR rp) (kM : okM ms) (h_p : inR l) (h_q : inR n) : gMet lc D ac mX10_member 3 [.ref m, .int (iI l), .int (iI n)] 0 0 sh rf mem (pM sh rf (fun r mem1 => r = mbrR rp ms l n ∧ MV m B mem1 rp (mbrS rp ms l n) ss ch ds lk ex ar g y z ∧ chA m B mem mem1)) := by
  refine gMet.mk (by decide) (by intro v hv; simp at hv; (try rcases hv with rfl | rfl | rfl) <;> rfl) (Nat.le_of_ble_eq_true rfl) (fun X hC hI => ?_)
  show gG X sh rf mem 0 0 0 [some (.ref m), some (.int (iI l)), some (.int (iI n))] []
  have hM9 := hM
  obtain ⟨mo, R4, S4, R5, S5, R6, S6, R7, S7, R8, S8, R9, S9, R10, S10, R11, S11, R12, S12, R13, S13, R14, S14, R15, S15, R16, S16, R17, S17, R19, S19, R20, S20, R21, S21, R22, S22, R25, S25, R26, S26, R27, S27, R30, S30, R31, S31, hBe, hBm, hmB⟩ := hM
  have i_p := h_p
  obtain ⟨p1, p2⟩ := h_p
  have i_q := h_q
  obtain ⟨q1, q2⟩ := h_q
  refine g_aload_n hC dX10_member_0 rfl ?_
  refine g_iconst hC dX10_member_1 ?_
  refine g_putI hC fdX10_84 (by assumption) rfl rfl dX10_member_2 ?_
  obtain ⟨mem0, e0⟩ : ∃ q, q = gup mem m 0 0 := ⟨_, rfl⟩
  rw [← e0]
  obtain ⟨hV0, hc0⟩ := MV.code (v := 0) hmB hV
  rw [← e0] at hV0 hc0
  have hV9 := hV0
  obtain ⟨hvL, hvM, hvS, hvC, hvD, hvO, hvI, hvT⟩ := hV0
  have l1 := hvM.1
  have k1 := kM.1
  have le1 := memS_le l n ms
  refine g_aload_n hC dX10_member_5 rfl ?_
  refine g_iload_n hC dX10_member_6 rfl ?_
  refine g_VP hC (kX10_isLibrary (gl X) (gD X) (gac X) m B rp l hM9 hvL kR i_p) cvX10_isLibrary lkX10_96 (by assumption) rfl rfl (Nat.le_of_ble_eq_true rfl) (hI.fit (Nat.le_of_ble_eq_true rfl) (Nat.le_of_ble_eq_true rfl) (Nat.le_of_ble_eq_true rfl)) dX10_member_7 (fun x7 hx7 => ?_)
  refine g_if_ne (tgt := 16) hC dX10_member_10 (by decide) ⟨by omega, by omega⟩ (fun h10 => ?_) (fun h10 => ?_)
  · refine g_iload_n hC dX10_member_16 rfl ?_
    refine g_SP hC (kX10_isName (gl X) (gD X) (gac X) n i_q) csX10_isName lkX10_100 rfl rfl (Nat.le_of_ble_eq_true rfl) (hI.fit (Nat.le_of_ble_eq_true rfl) (Nat.le_of_ble_eq_true rfl) (Nat.le_of_ble_eq_true rfl)) dX10_member_17 (fun x17 hx17 => ?_)
    refine g_if_ne (tgt := 26) hC dX10_member_20 (by decide) ⟨by omega, by omega⟩ (fun h20 => ?_) (fun h20 => ?_)
    · refine g_aload_n hC dX10_member_26 rfl ?_
      refine g_iload_n hC dX10_member_27 rfl ?_
      refine g_iload_n hC dX10_member_28 rfl ?_
      refine g_VP hC (kX10_memberOf (gl X) (gD X) (gac X) m B ms l n hM9 hvM kM i_p i_q) cvX10_memberOf lkX10_103 (by assumption) rfl rfl (Nat.le_of_ble_eq_true rfl) (hI.fit (Nat.le_of_ble_eq_true rfl) (Nat.le_of_ble_eq_true rfl) (Nat.le_of_ble_eq_true rfl)) dX10_member_29 (fun x29 hx29 => ?_)
      subst hx29
      refine g_if_le (tgt := 38) hC dX10_member_32 (by decide) ⟨by omega, by omega⟩ (fun h32 => ?_) (fun h32 => ?_)
      · refine g_aload_n hC dX10_member_38 rfl ?_
        refine g_getI hC fdX10_90 (by assumption) dX10_member_39 ?_
        refine g_bipush hC dX10_member_42 (by decide +kernel) ?_
        refine g_icmp_ne (tgt := 51) hC dX10_member_44 (by decide) ⟨by omega, by omega⟩ ⟨by omega, by omega⟩ (fun h44 => ?_) (fun h44 => ?_)
        · refine g_aload_n hC dX10_member_51 rfl ?_
          refine g_iload_n hC dX10_member_52 rfl ?_
          refine g_iload_n hC dX10_member_53 rfl ?_
          refine g_VM hC (kX10_newMember (gl X) (gD X) (gac X) m B ms l n hM9 hvM (by omega)) cvX10_newMember lkX10_107 (by assumption) rfl rfl (Nat.le_of_ble_eq_true rfl) (hI.fit (Nat.le_of_ble_eq_true rfl) (Nat.le_of_ble_eq_true rfl) (Nat.le_of_ble_eq_true rfl)) dX10_member_54 (fun x54 mem54 hx54 => ?_)
          refine g_iret hC hI rfl dX10_member_57 (Nat.le_of_ble_eq_true rfl) (Nat.le_of_ble_eq_true rfl) ⟨rfl, rfl, _, rfl, ?_⟩
          rw [mbrR, if_neg (by omega), if_neg (by omega), if_neg (by omega)]
          first
          | (rw [if_neg (by omega), mbrS, if_neg (by omega)]
             exact ⟨rfl, ⟨hV9, hc0.2⟩⟩)
          | (rw [if_pos (by omega), mbrS, if_pos (by omega)]
             obtain ⟨q1, q2⟩ := hx54
             obtain ⟨n1, n2, n3⟩ := vM_new (l := l) (n := n) hBe hBm hmB hvM
             rw [← q2] at n1 n2
             exact ⟨q1, ⟨hvL.st n2 (by decide), n1, hvS.st n2 (by decide), hvC.st n2 (by decide), hvD.st n2 (by decide), hvO.st n2 (by decide), hvI.st n2 (by decide), hvT.st n2 (by decide)⟩, chA.trans hc0.2 n2.2⟩)
        · refine g_iconst hC dX10_member_47 ?_
          refine g_goto (tgt := 57) hC dX10_member_48 (by decide) ?_
          refine g_iret hC hI rfl dX10_member_57 (Nat.le_of_ble_eq_true rfl) (Nat.le_of_ble_eq_true rfl) ⟨rfl, rfl, _, rfl, ?_⟩
          rw [mbrR, if_neg (by omega), if_neg (by omega), if_neg (by omega)]
          first
          | (rw [if_neg (by omega), mbrS, if_neg (by omega)]
             exact ⟨rfl, ⟨hV9, hc0.2⟩⟩)
          | (rw [if_pos (by omega), mbrS, if_pos (by omega)]
             obtain ⟨q1, q2⟩ := hx54
             obtain ⟨n1, n2, n3⟩ := vM_new (l := l) (n := n) hBe hBm hmB hvM
             rw [← q2] at n1 n2
             exact ⟨q1, ⟨hvL.st n2 (by decide), n1, hvS.st n2 (by decide), hvC.st n2 (by decide), hvD.st n2 (by decide), hvO.st n2 (by decide), hvI.st n2 (by decide), hvT.st n2 (by decide)⟩, chA.trans hc0.2 n2.2⟩)
      · refine g_bipush hC dX10_member_35 (by decide +kernel) ?_
        refine g_iret hC hI rfl dX10_member_37 (Nat.le_of_ble_eq_true rfl) (Nat.le_of_ble_eq_true rfl) ⟨rfl, rfl, _, rfl, ?_⟩
        rw [mbrR, if_neg (by omega), if_neg (by omega), if_pos (by omega), mbrS, if_neg (by omega)]
        exact ⟨rfl, ⟨hV9, hc0.2⟩⟩
    · refine g_bipush hC dX10_member_23 (by decide +kernel) ?_
      refine g_iret hC hI rfl dX10_member_25 (Nat.le_of_ble_eq_true rfl) (Nat.le_of_ble_eq_true rfl) ⟨rfl, rfl, _, rfl, ?_⟩
      rw [mbrR, if_neg (by omega), if_pos (by omega), mbrS, if_neg (by omega)]
      exact ⟨rfl, ⟨hV9, hc0.2⟩⟩
  · refine g_bipush hC dX10_member_13 (by decide +kernel) ?_
    refine g_iret hC hI rfl dX10_member_15 (Nat.le_of_ble_eq_true rfl) (Nat.le_of_ble_eq_true rfl) ⟨rfl, rfl, _, rfl, ?_⟩
    rw [mbrR, if_pos (by omega), mbrS, if_neg (by omega)]
    exact ⟨rfl, ⟨hV9, hc0.2⟩⟩
