section M3
variable {sh : Nat → Nat × Nat} {rf : Nat → Nat → Option Nat} {mem mem1 mem2 : Nat → Nat → Int} {m : Nat} {B : Nat → Nat} {xs : Lns}
theorem so_0 {b n : Nat} : so b n n = fun a => a := by
  funext a; unfold so; rw [if_neg (by omega)]
theorem so_s {b n q : Nat} (h1 : 1 ≤ q) (h2 : q ≤ n) : (fun a => so b n q (if a = b + q then b + q - 1 else a)) = so b n (q - 1) := by
  funext a
  unfold so
  by_cases e : a = b + q
  · rw [if_pos e, if_neg (by omega), if_pos (by omega)]; omega
  · rw [if_neg e]
    by_cases e2 : b + q + 1 ≤ a ∧ a ≤ b + n
    · rw [if_pos e2, if_pos (by omega)]
    · rw [if_neg e2, if_neg (by omega)]
theorem sc_0 {b p : Nat} : sc b p p = fun a => a := by
  funext a; unfold sc; rw [if_neg (by omega)]
theorem sc_s {b p q : Nat} (h1 : p ≤ q) : (fun a => sc b p q (if a = b + q then b + q + 1 else a)) = sc b p (q + 1) := by
  funext a
  unfold sc
  by_cases e : a = b + q
  · rw [if_pos e, if_neg (by omega), if_pos (by omega)]; omega
  · rw [if_neg e]
    by_cases e2 : b + p ≤ a ∧ a < b + q
    · rw [if_pos e2, if_pos (by omega)]
    · rw [if_neg e2, if_neg (by omega)]
theorem sl_0 {f t : Nat} : sl f t 0 = fun a => a := by
  funext a; unfold sl; rw [if_neg (by omega)]
theorem sl_s {f t q : Nat} (h : ¬ (t ≤ f + q ∧ f + q < t + q)) : (fun a => sl f t q (if a = t + q then f + q else a)) = sl f t (q + 1) := by
  funext a
  unfold sl
  by_cases e : a = t + q
  · rw [if_pos e, if_neg h, if_pos (by omega)]; omega
  · rw [if_neg e]
    by_cases e2 : t ≤ a ∧ a < t + q
    · rw [if_pos e2, if_pos (by omega)]
    · rw [if_neg e2, if_neg (by omega)]
end M3
set_option maxHeartbeats 4000000 in
set_option maxRecDepth 100000 in
theorem kX10_newMember (lc : Launch) (D : va_G) (ac : Nat → ClassId) {sh : Nat → Nat × Nat} {rf : Nat → Nat → Option Nat} {mem : Nat → Nat → Int} (m : Nat) (B : Nat → Nat) (ms : List (Option MemT)) (l n : Int) (hM : MO sh rf m B) (hv : vM m B mem ms) (hk : ms.length < 80) : gMet lc D ac mX10_newMember 0 [.ref m, .int (iI l), .int (iI n)] 0 0 sh rf mem (pM sh rf (fun r mem1 => r = ms.length + 1 ∧ mem1 = newM B mem m (ms.length + 1) l n)) := by
  refine gMet.mk (by decide) (by intro v hv; simp at hv; (try rcases hv with rfl | rfl | rfl) <;> rfl) (Nat.le_of_ble_eq_true rfl) (fun X hC hI => ?_)
  show gG X sh rf mem 0 0 0 [some (.ref m), some (.int (iI l)), some (.int (iI n))] []
  have hM9 := hM
  obtain ⟨mo, R4, S4, R5, S5, R6, S6, R7, S7, R8, S8, R9, S9, R10, S10, R11, S11, R12, S12, R13, S13, R14, S14, R15, S15, R16, S16, R17, S17, R19, S19, R20, S20, R21, S21, R22, S22, R25, S25, R26, S26, R27, S27, R30, S30, R31, S31, hBe, hBm, hmB⟩ := hM
  have v1 := hv.1
  refine g_aload_n hC dX10_newMember_0 rfl ?_
  refine g_dup hC dX10_newMember_1 rfl ?_
  refine g_getI hC fdX10_90 (by assumption) dX10_newMember_2 ?_
  refine g_iconst hC dX10_newMember_5 ?_
  refine g_iadd hC dX10_newMember_6 ?_
  refine g_putI hC fdX10_90 (by assumption) rfl rfl dX10_newMember_7 ?_
  obtain ⟨mem2, e2⟩ : ∃ q, q = gup mem m 2 (mem m 2 + 1) := ⟨_, rfl⟩
  rw [← e2]
  have t2 : mem2 m 2 = ms.length + 1 := by rw [e2, gup_s, v1]
  have w2 : (mem2 m 2).toNat = ms.length + 1 := by omega
  refine g_aload_n hC dX10_newMember_10 rfl ?_
  refine g_getR hC fdX10_13 (by assumption) (by assumption) dX10_newMember_11 ?_
  refine g_aload_n hC dX10_newMember_14 rfl ?_
  refine g_getI hC fdX10_90 (by assumption) dX10_newMember_15 ?_
  refine g_iload_n hC dX10_newMember_18 rfl ?_
  refine g_iast hC (by assumption) (by omega) (by omega) (by decide) dX10_newMember_19 ?_
  obtain ⟨mem3, e3⟩ : ∃ q, q = gup mem2 (B 5) (mem2 m 2).toNat l := ⟨_, rfl⟩
  rw [← e3]
  have t3 : mem3 m 2 = ms.length + 1 := by rw [e3, gup_a _ _ _ _ (by simp [hmB])]; exact t2
  have w3 : (mem3 m 2).toNat = ms.length + 1 := by omega
  refine g_aload_n hC dX10_newMember_20 rfl ?_
  refine g_getR hC fdX10_17 (by assumption) (by assumption) dX10_newMember_21 ?_
  refine g_aload_n hC dX10_newMember_24 rfl ?_
  refine g_getI hC fdX10_90 (by assumption) dX10_newMember_25 ?_
  refine g_iload_n hC dX10_newMember_28 rfl ?_
  refine g_iast hC (by assumption) (by omega) (by omega) (by decide) dX10_newMember_29 ?_
  obtain ⟨mem4, e4⟩ : ∃ q, q = gup mem3 (B 6) (mem3 m 2).toNat n := ⟨_, rfl⟩
  rw [← e4]
  have t4 : mem4 m 2 = ms.length + 1 := by rw [e4, gup_a _ _ _ _ (by simp [hmB])]; exact t3
  have w4 : (mem4 m 2).toNat = ms.length + 1 := by omega
  refine g_aload_n hC dX10_newMember_30 rfl ?_
  refine g_getR hC fdX10_20 (by assumption) (by assumption) dX10_newMember_31 ?_
  refine g_aload_n hC dX10_newMember_34 rfl ?_
  refine g_getI hC fdX10_90 (by assumption) dX10_newMember_35 ?_
  refine g_iconst hC dX10_newMember_38 ?_
  refine g_iast hC (by assumption) (by omega) (by omega) (by decide) dX10_newMember_39 ?_
  obtain ⟨mem5, e5⟩ : ∃ q, q = gup mem4 (B 7) (mem4 m 2).toNat 0 := ⟨_, rfl⟩
  rw [← e5]
  have t5 : mem5 m 2 = ms.length + 1 := by rw [e5, gup_a _ _ _ _ (by simp [hmB])]; exact t4
  refine g_aload_n hC dX10_newMember_40 rfl ?_
  refine g_getI hC fdX10_90 (by assumption) dX10_newMember_41 ?_
  refine g_iret hC hI rfl dX10_newMember_44 (Nat.le_of_ble_eq_true rfl) (Nat.le_of_ble_eq_true rfl) ⟨rfl, rfl, _, rfl, ?_⟩
  refine ⟨t5, ?_⟩
  rw [e5, w4, e4, w3, e3, w2, e2, v1]
  rfl
set_option maxHeartbeats 4000000 in
set_option maxRecDepth 100000 in
theorem kX10_acts (lc : Launch) (D : va_G) (ac : Nat → ClassId) {sh : Nat → Nat × Nat} {rf : Nat → Nat → Option Nat} {mem : Nat → Nat → Int} (m : Nat) (B : Nat → Nat) (g y z c : Int) (hM : MO sh rf m B) (hv : vT m mem g y z) (hk : 0 ≤ g ∧ g ≤ 12 ∧ (y = 0 ∨ y = 1)) (hc : 0 ≤ c ∧ c ≤ 12) : gMet lc D ac mX10_acts 0 [.ref m, .int (iI c)] 0 0 sh rf mem (pM sh rf (fun r mem1 => ((r = 1 ∧ y = 0) ∨ (r = 0 ∧ y = 1)) ∧ vT m mem1 (stG g c) y (stZ y z c) ∧ chF m B mem mem1 [33, 34])) := by
  refine gMet.mk (by decide) (by intro v hv; simp at hv; (try rcases hv with rfl | rfl) <;> rfl) (Nat.le_of_ble_eq_true rfl) (fun X hC hI => ?_)
  show gG X sh rf mem 0 0 0 [some (.ref m), some (.int (iI c))] []
  have hM9 := hM
  obtain ⟨mo, R4, S4, R5, S5, R6, S6, R7, S7, R8, S8, R9, S9, R10, S10, R11, S11, R12, S12, R13, S13, R14, S14, R15, S15, R16, S16, R17, S17, R19, S19, R20, S20, R21, S21, R22, S22, R25, S25, R26, S26, R27, S27, R30, S30, R31, S31, hBe, hBm, hmB⟩ := hM
  obtain ⟨v1, v2, v3⟩ := hv
  have G0 : stG g c = if g < c then c else g := if_neg (by omega)
  refine g_aload_n hC dX10_acts_0 rfl ?_
  refine g_iload_n hC dX10_acts_1 rfl ?_
  refine g_aload_n hC dX10_acts_2 rfl ?_
  refine g_getI hC fdX10_134 (by assumption) dX10_acts_3 ?_
  refine g_icmp_le (tgt := 13) hC dX10_acts_6 (by decide) ⟨by omega, by omega⟩ ⟨by omega, by omega⟩ (fun h6 => ?_) (fun h6 => ?_)
  · refine g_aload_n hC dX10_acts_13 rfl ?_
    refine g_getI hC fdX10_134 (by assumption) dX10_acts_14 ?_
    refine g_putI hC fdX10_134 (by assumption) rfl rfl dX10_acts_17 ?_
    obtain ⟨mem2, e2⟩ : ∃ q, q = gup mem m 34 (stG g c) := ⟨_, rfl⟩
    first | (rw [show gup mem m 34 c = mem2 by rw [e2, G0, if_pos (by omega)]]) | (rw [show gup mem m 34 (mem m 34) = mem2 by rw [e2, G0, if_neg (by omega), v1]])
    have t2 : mem2 m 32 = y := by rw [e2, gup_k _ _ _ _ (by decide)]; exact v2
    have t3 : mem2 m 33 = z := by rw [e2, gup_k _ _ _ _ (by decide)]; exact v3
    refine g_aload_n hC dX10_acts_20 rfl ?_
    refine g_dup hC dX10_acts_21 rfl ?_
    refine g_getI hC fdX10_137 (by assumption) dX10_acts_22 ?_
    refine g_aload_n hC dX10_acts_25 rfl ?_
    refine g_getI hC fdX10_140 (by assumption) dX10_acts_26 ?_
    refine g_if_eq (tgt := 36) hC dX10_acts_29 (by decide) ⟨by omega, by omega⟩ (fun h29 => ?_) (fun h29 => ?_)
    · refine g_iconst hC dX10_acts_36 ?_
      refine g_iadd hC dX10_acts_37 ?_
      refine g_putI hC fdX10_137 (by assumption) rfl rfl dX10_acts_38 ?_
      obtain ⟨mem3, e3⟩ : ∃ q, q = gup mem2 m 33 (stZ y z c) := ⟨_, rfl⟩
      first | (rw [show gup mem2 m 33 (mem2 m 33 + 1) = mem3 by rw [e3, t3, stZ, if_pos (by omega)]]) | (rw [show gup mem2 m 33 (mem2 m 33 + 0) = mem3 by rw [e3, t3, stZ, if_neg (by omega)]; congr 1; omega])
      have u2 : mem3 m 32 = y := by rw [e3, gup_k _ _ _ _ (by decide)]; exact t2
      refine g_aload_n hC dX10_acts_41 rfl ?_
      refine g_getI hC fdX10_140 (by assumption) dX10_acts_42 ?_
      refine g_if_ne (tgt := 52) hC dX10_acts_45 (by decide) ⟨by omega, by omega⟩ (fun h45 => ?_) (fun h45 => ?_)
      · refine g_iconst hC dX10_acts_52 ?_
        refine g_zret hC hI rfl (by decide +kernel) dX10_acts_53 (Nat.le_of_ble_eq_true rfl) (Nat.le_of_ble_eq_true rfl) ⟨rfl, rfl, _, rfl, ?_⟩
        refine ⟨by omega, ⟨?_, u2, ?_⟩, ?_⟩
        · rw [e3, gup_k _ _ _ _ (by decide), e2, gup_s]
        · rw [e3, gup_s]
        · rw [e3, e2]
          exact ((chF.fld hmB).trans (chF.fld hmB)).mono (by decide)
      · refine g_iconst hC dX10_acts_48 ?_
        refine g_goto (tgt := 53) hC dX10_acts_49 (by decide) ?_
        refine g_zret hC hI rfl (by decide +kernel) dX10_acts_53 (Nat.le_of_ble_eq_true rfl) (Nat.le_of_ble_eq_true rfl) ⟨rfl, rfl, _, rfl, ?_⟩
        refine ⟨by omega, ⟨?_, u2, ?_⟩, ?_⟩
        · rw [e3, gup_k _ _ _ _ (by decide), e2, gup_s]
        · rw [e3, gup_s]
        · rw [e3, e2]
          exact ((chF.fld hmB).trans (chF.fld hmB)).mono (by decide)
    · refine g_iconst hC dX10_acts_32 ?_
      refine g_goto (tgt := 37) hC dX10_acts_33 (by decide) ?_
      refine g_iadd hC dX10_acts_37 ?_
      refine g_putI hC fdX10_137 (by assumption) rfl rfl dX10_acts_38 ?_
      obtain ⟨mem3, e3⟩ : ∃ q, q = gup mem2 m 33 (stZ y z c) := ⟨_, rfl⟩
      first | (rw [show gup mem2 m 33 (mem2 m 33 + 1) = mem3 by rw [e3, t3, stZ, if_pos (by omega)]]) | (rw [show gup mem2 m 33 (mem2 m 33 + 0) = mem3 by rw [e3, t3, stZ, if_neg (by omega)]; congr 1; omega])
      have u2 : mem3 m 32 = y := by rw [e3, gup_k _ _ _ _ (by decide)]; exact t2
      refine g_aload_n hC dX10_acts_41 rfl ?_
      refine g_getI hC fdX10_140 (by assumption) dX10_acts_42 ?_
      refine g_if_ne (tgt := 52) hC dX10_acts_45 (by decide) ⟨by omega, by omega⟩ (fun h45 => ?_) (fun h45 => ?_)
      · refine g_iconst hC dX10_acts_52 ?_
        refine g_zret hC hI rfl (by decide +kernel) dX10_acts_53 (Nat.le_of_ble_eq_true rfl) (Nat.le_of_ble_eq_true rfl) ⟨rfl, rfl, _, rfl, ?_⟩
        refine ⟨by omega, ⟨?_, u2, ?_⟩, ?_⟩
        · rw [e3, gup_k _ _ _ _ (by decide), e2, gup_s]
        · rw [e3, gup_s]
        · rw [e3, e2]
          exact ((chF.fld hmB).trans (chF.fld hmB)).mono (by decide)
      · refine g_iconst hC dX10_acts_48 ?_
        refine g_goto (tgt := 53) hC dX10_acts_49 (by decide) ?_
        refine g_zret hC hI rfl (by decide +kernel) dX10_acts_53 (Nat.le_of_ble_eq_true rfl) (Nat.le_of_ble_eq_true rfl) ⟨rfl, rfl, _, rfl, ?_⟩
        refine ⟨by omega, ⟨?_, u2, ?_⟩, ?_⟩
        · rw [e3, gup_k _ _ _ _ (by decide), e2, gup_s]
        · rw [e3, gup_s]
        · rw [e3, e2]
          exact ((chF.fld hmB).trans (chF.fld hmB)).mono (by decide)
  · refine g_iload_n hC dX10_acts_9 rfl ?_
    refine g_goto (tgt := 17) hC dX10_acts_10 (by decide) ?_
    refine g_putI hC fdX10_134 (by assumption) rfl rfl dX10_acts_17 ?_
    obtain ⟨mem2, e2⟩ : ∃ q, q = gup mem m 34 (stG g c) := ⟨_, rfl⟩
    first | (rw [show gup mem m 34 c = mem2 by rw [e2, G0, if_pos (by omega)]]) | (rw [show gup mem m 34 (mem m 34) = mem2 by rw [e2, G0, if_neg (by omega), v1]])
    have t2 : mem2 m 32 = y := by rw [e2, gup_k _ _ _ _ (by decide)]; exact v2
    have t3 : mem2 m 33 = z := by rw [e2, gup_k _ _ _ _ (by decide)]; exact v3
    refine g_aload_n hC dX10_acts_20 rfl ?_
    refine g_dup hC dX10_acts_21 rfl ?_
    refine g_getI hC fdX10_137 (by assumption) dX10_acts_22 ?_
    refine g_aload_n hC dX10_acts_25 rfl ?_
    refine g_getI hC fdX10_140 (by assumption) dX10_acts_26 ?_
    refine g_if_eq (tgt := 36) hC dX10_acts_29 (by decide) ⟨by omega, by omega⟩ (fun h29 => ?_) (fun h29 => ?_)
    · refine g_iconst hC dX10_acts_36 ?_
      refine g_iadd hC dX10_acts_37 ?_
      refine g_putI hC fdX10_137 (by assumption) rfl rfl dX10_acts_38 ?_
      obtain ⟨mem3, e3⟩ : ∃ q, q = gup mem2 m 33 (stZ y z c) := ⟨_, rfl⟩
      first | (rw [show gup mem2 m 33 (mem2 m 33 + 1) = mem3 by rw [e3, t3, stZ, if_pos (by omega)]]) | (rw [show gup mem2 m 33 (mem2 m 33 + 0) = mem3 by rw [e3, t3, stZ, if_neg (by omega)]; congr 1; omega])
      have u2 : mem3 m 32 = y := by rw [e3, gup_k _ _ _ _ (by decide)]; exact t2
      refine g_aload_n hC dX10_acts_41 rfl ?_
      refine g_getI hC fdX10_140 (by assumption) dX10_acts_42 ?_
      refine g_if_ne (tgt := 52) hC dX10_acts_45 (by decide) ⟨by omega, by omega⟩ (fun h45 => ?_) (fun h45 => ?_)
      · refine g_iconst hC dX10_acts_52 ?_
        refine g_zret hC hI rfl (by decide +kernel) dX10_acts_53 (Nat.le_of_ble_eq_true rfl) (Nat.le_of_ble_eq_true rfl) ⟨rfl, rfl, _, rfl, ?_⟩
        refine ⟨by omega, ⟨?_, u2, ?_⟩, ?_⟩
        · rw [e3, gup_k _ _ _ _ (by decide), e2, gup_s]
        · rw [e3, gup_s]
        · rw [e3, e2]
          exact ((chF.fld hmB).trans (chF.fld hmB)).mono (by decide)
      · refine g_iconst hC dX10_acts_48 ?_
        refine g_goto (tgt := 53) hC dX10_acts_49 (by decide) ?_
        refine g_zret hC hI rfl (by decide +kernel) dX10_acts_53 (Nat.le_of_ble_eq_true rfl) (Nat.le_of_ble_eq_true rfl) ⟨rfl, rfl, _, rfl, ?_⟩
        refine ⟨by omega, ⟨?_, u2, ?_⟩, ?_⟩
        · rw [e3, gup_k _ _ _ _ (by decide), e2, gup_s]
        · rw [e3, gup_s]
        · rw [e3, e2]
          exact ((chF.fld hmB).trans (chF.fld hmB)).mono (by decide)
    · refine g_iconst hC dX10_acts_32 ?_
      refine g_goto (tgt := 37) hC dX10_acts_33 (by decide) ?_
      refine g_iadd hC dX10_acts_37 ?_
      refine g_putI hC fdX10_137 (by assumption) rfl rfl dX10_acts_38 ?_
      obtain ⟨mem3, e3⟩ : ∃ q, q = gup mem2 m 33 (stZ y z c) := ⟨_, rfl⟩
      first | (rw [show gup mem2 m 33 (mem2 m 33 + 1) = mem3 by rw [e3, t3, stZ, if_pos (by omega)]]) | (rw [show gup mem2 m 33 (mem2 m 33 + 0) = mem3 by rw [e3, t3, stZ, if_neg (by omega)]; congr 1; omega])
      have u2 : mem3 m 32 = y := by rw [e3, gup_k _ _ _ _ (by decide)]; exact t2
      refine g_aload_n hC dX10_acts_41 rfl ?_
      refine g_getI hC fdX10_140 (by assumption) dX10_acts_42 ?_
      refine g_if_ne (tgt := 52) hC dX10_acts_45 (by decide) ⟨by omega, by omega⟩ (fun h45 => ?_) (fun h45 => ?_)
      · refine g_iconst hC dX10_acts_52 ?_
        refine g_zret hC hI rfl (by decide +kernel) dX10_acts_53 (Nat.le_of_ble_eq_true rfl) (Nat.le_of_ble_eq_true rfl) ⟨rfl, rfl, _, rfl, ?_⟩
        refine ⟨by omega, ⟨?_, u2, ?_⟩, ?_⟩
        · rw [e3, gup_k _ _ _ _ (by decide), e2, gup_s]
        · rw [e3, gup_s]
        · rw [e3, e2]
          exact ((chF.fld hmB).trans (chF.fld hmB)).mono (by decide)
      · refine g_iconst hC dX10_acts_48 ?_
        refine g_goto (tgt := 53) hC dX10_acts_49 (by decide) ?_
        refine g_zret hC hI rfl (by decide +kernel) dX10_acts_53 (Nat.le_of_ble_eq_true rfl) (Nat.le_of_ble_eq_true rfl) ⟨rfl, rfl, _, rfl, ?_⟩
        refine ⟨by omega, ⟨?_, u2, ?_⟩, ?_⟩
        · rw [e3, gup_k _ _ _ _ (by decide), e2, gup_s]
        · rw [e3, gup_s]
        · rw [e3, e2]
          exact ((chF.fld hmB).trans (chF.fld hmB)).mono (by decide)
set_option maxHeartbeats 4000000 in
set_option maxRecDepth 100000 in
theorem kX10_placeOf (lc : Launch) (D : va_G) (ac : Nat → ClassId) {sh : Nat → Nat × Nat} {rf : Nat → Nat → Option Nat} {mem : Nat → Nat → Int} (m : Nat) (B : Nat → Nat) (k : Nat) (xs : Lns) (n : Int) (hM : MO sh rf m B) (hl : lnM B mem k xs) (ok : okL xs) (hk : 1 ≤ k ∧ k ≤ 80) (h_n : inR n) : gMet lc D ac mX10_placeOf 0 [.ref m, .int (iI k), .int (iI n)] 0 0 sh rf mem (pP sh rf mem (fun r => r = 30 * k + plc xs n)) := by
  refine gMet.mk (by decide) (by intro v hv; simp at hv; (try rcases hv with rfl | rfl | rfl) <;> rfl) (Nat.le_of_ble_eq_true rfl) (fun X hC hI => ?_)
  show gG X sh rf mem 0 0 0 [some (.ref m), some (.int (iI k)), some (.int (iI n)), none] []
  have hM9 := hM
  obtain ⟨mo, R4, S4, R5, S5, R6, S6, R7, S7, R8, S8, R9, S9, R10, S10, R11, S11, R12, S12, R13, S13, R14, S14, R15, S15, R16, S16, R17, S17, R19, S19, R20, S20, R21, S21, R22, S22, R25, S25, R26, S26, R27, S27, R30, S30, R31, S31, hBe, hBm, hmB⟩ := hM
  have l1 : mem (B 7) (k : Int).toNat = xs.length := hl.1
  have o1 := ok.1
  have i_n := h_n
  obtain ⟨n1, n2⟩ := h_n
  have J5 : ∀ (t p : Nat), p ≤ xs.length → xs.length < p + t → (∀ j, j < p → nu xs j < n) → gG X sh rf mem 0 0 5 [some (.ref m), some (.int (iI k)), some (.int (iI n)), some (.int (iI (30 * (k : Int) + p)))] [] := by
    intro t
    induction t with
    | zero => intro p c1 c2; omega
    | succ t ih =>
      intro p c1 c2 c3
      have ep : (30 * (k : Int) + p).toNat = 30 * k + p := by omega
      have o2 := (ok.2 p).2
      refine g_iload_n hC dX10_placeOf_5 rfl ?_
      refine g_bipush hC dX10_placeOf_6 (by decide +kernel) ?_
      refine g_iload_n hC dX10_placeOf_8 rfl ?_
      refine g_imul hC dX10_placeOf_9 ?_
      refine g_aload_n hC dX10_placeOf_10 rfl ?_
      refine g_getR hC fdX10_20 (by assumption) (by assumption) dX10_placeOf_11 ?_
      refine g_iload_n hC dX10_placeOf_14 rfl ?_
      refine g_iald hC (by assumption) (by omega) (by omega) (by decide) dX10_placeOf_15 ?_
      refine g_iadd hC dX10_placeOf_16 ?_
      refine g_icmp_ge (tgt := 36) hC dX10_placeOf_17 (by decide) ⟨by omega, by omega⟩ ⟨by omega, by omega⟩ (fun h17 => ?_) (fun h17 => ?_)
      · refine g_iload_n hC dX10_placeOf_36 rfl ?_
        refine g_iret hC hI rfl dX10_placeOf_37 (Nat.le_of_ble_eq_true rfl) (Nat.le_of_ble_eq_true rfl) ⟨rfl, rfl, rfl, _, rfl, ?_⟩
        have := plc_eq (n := n) (xs := xs) (p := p) (by omega) c3 (fun h => by
          have w25 : mem (B 9) (30 * (k : Int) + p).toNat = nu xs p := by rw [ep]; exact (hl.2 p (by omega)).1
          omega)
        omega
      · refine g_aload_n hC dX10_placeOf_20 rfl ?_
        refine g_getR hC fdX10_26 (by assumption) (by assumption) dX10_placeOf_21 ?_
        refine g_iload_n hC dX10_placeOf_24 rfl ?_
        have w25 : mem (B 9) (30 * (k : Int) + p).toNat = nu xs p := by rw [ep]; exact (hl.2 p (by omega)).1
        refine g_iald hC (by assumption) (by omega) (by omega) (by decide) dX10_placeOf_25 ?_
        refine g_iload_n hC dX10_placeOf_26 rfl ?_
        refine g_icmp_ge (tgt := 36) hC dX10_placeOf_27 (by decide) ⟨by omega, by omega⟩ ⟨by omega, by omega⟩ (fun h27 => ?_) (fun h27 => ?_)
        · refine g_iload_n hC dX10_placeOf_36 rfl ?_
          refine g_iret hC hI rfl dX10_placeOf_37 (Nat.le_of_ble_eq_true rfl) (Nat.le_of_ble_eq_true rfl) ⟨rfl, rfl, rfl, _, rfl, ?_⟩
          have := plc_eq (n := n) (xs := xs) (p := p) (by omega) c3 (fun h => by
            have w25 : mem (B 9) (30 * (k : Int) + p).toNat = nu xs p := by rw [ep]; exact (hl.2 p (by omega)).1
            omega)
          omega
        · refine g_iinc hC dX10_placeOf_30 rfl ?_
          dsimp only [List.set]
          refine g_goto (tgt := 5) hC dX10_placeOf_33 (by decide) ?_
          first
          | (have := J5 (xs.length + 1) 0 (Nat.zero_le _) (by omega) (fun j hj => absurd hj (Nat.not_lt_zero j))
             rw [show 30 * (k : Int) + (0 : Nat) = 30 * (k : Int) by omega] at this
             exact this)
          | (refine ih (p + 1) (by omega) (by omega) (fun j hj => ?_)
             by_cases e : j = p
             · subst e; omega
             · exact c3 j (by omega))
  refine g_bipush hC dX10_placeOf_0 (by decide +kernel) ?_
  refine g_iload_n hC dX10_placeOf_2 rfl ?_
  refine g_imul hC dX10_placeOf_3 ?_
  refine g_istore_n hC 3 rfl dX10_placeOf_4 (Nat.le_of_ble_eq_true rfl) ?_
  dsimp only [List.set]
  first
  | (have := J5 (xs.length + 1) 0 (Nat.zero_le _) (by omega) (fun j hj => absurd hj (Nat.not_lt_zero j))
     rw [show 30 * (k : Int) + (0 : Nat) = 30 * (k : Int) by omega] at this
     exact this)
  | (refine ih (p + 1) (by omega) (by omega) (fun j hj => ?_)
     by_cases e : j = p
     · subst e; omega
     · exact c3 j (by omega))
set_option maxHeartbeats 4000000 in
set_option maxRecDepth 100000 in
theorem kX10_isAt (lc : Launch) (D : va_G) (ac : Nat → ClassId) {sh : Nat → Nat × Nat} {rf : Nat → Nat → Option Nat} {mem : Nat → Nat → Int} (m : Nat) (B : Nat → Nat) (k : Nat) (xs : Lns) (p : Nat) (n : Int) (hM : MO sh rf m B) (hl : lnM B mem k xs) (ok : okL xs) (hk : 1 ≤ k ∧ k ≤ 80) (h_n : inR n) (hp : p ≤ xs.length) : gMet lc D ac mX10_isAt 0 [.ref m, .int (iI k), .int (iI (30 * (k : Int) + p)), .int (iI n)] 0 0 sh rf mem (pP sh rf mem (fun r => (r = 1 ∧ p < xs.length ∧ nu xs p = n) ∨ (r = 0 ∧ ¬ (p < xs.length ∧ nu xs p = n)))) := by
  refine gMet.mk (by decide) (by intro v hv; simp at hv; (try rcases hv with rfl | rfl | rfl | rfl) <;> rfl) (Nat.le_of_ble_eq_true rfl) (fun X hC hI => ?_)
  show gG X sh rf mem 0 0 0 [some (.ref m), some (.int (iI k)), some (.int (iI (30 * (k : Int) + p))), some (.int (iI n))] []
  have hM9 := hM
  obtain ⟨mo, R4, S4, R5, S5, R6, S6, R7, S7, R8, S8, R9, S9, R10, S10, R11, S11, R12, S12, R13, S13, R14, S14, R15, S15, R16, S16, R17, S17, R19, S19, R20, S20, R21, S21, R22, S22, R25, S25, R26, S26, R27, S27, R30, S30, R31, S31, hBe, hBm, hmB⟩ := hM
  have l1 : mem (B 7) (k : Int).toNat = xs.length := hl.1
  have o1 := ok.1
  have i_n := h_n
  obtain ⟨n1, n2⟩ := h_n
  have ep : (30 * (k : Int) + p).toNat = 30 * k + p := by omega
  have o2 := (ok.2 p).2
  have w25 : p < xs.length → mem (B 9) (30 * (k : Int) + p).toNat = nu xs p := fun h => by rw [ep]; exact (hl.2 p h).1
  refine g_iload_n hC dX10_isAt_0 rfl ?_
  refine g_bipush hC dX10_isAt_1 (by decide +kernel) ?_
  refine g_iload_n hC dX10_isAt_3 rfl ?_
  refine g_imul hC dX10_isAt_4 ?_
  refine g_aload_n hC dX10_isAt_5 rfl ?_
  refine g_getR hC fdX10_20 (by assumption) (by assumption) dX10_isAt_6 ?_
  refine g_iload_n hC dX10_isAt_9 rfl ?_
  refine g_iald hC (by assumption) (by omega) (by omega) (by decide) dX10_isAt_10 ?_
  refine g_iadd hC dX10_isAt_11 ?_
  refine g_icmp_ge (tgt := 29) hC dX10_isAt_12 (by decide) ⟨by omega, by omega⟩ ⟨by omega, by omega⟩ (fun h12 => ?_) (fun h12 => ?_)
  · refine g_iconst hC dX10_isAt_29 ?_
    refine g_zret hC hI rfl (by decide +kernel) dX10_isAt_30 (Nat.le_of_ble_eq_true rfl) (Nat.le_of_ble_eq_true rfl) ⟨rfl, rfl, rfl, _, rfl, ?_⟩
    omega
  · refine g_aload_n hC dX10_isAt_15 rfl ?_
    refine g_getR hC fdX10_26 (by assumption) (by assumption) dX10_isAt_16 ?_
    refine g_iload_n hC dX10_isAt_19 rfl ?_
    refine g_iald hC (by assumption) (by omega) (by omega) (by decide) dX10_isAt_20 ?_
    refine g_iload_n hC dX10_isAt_21 rfl ?_
    refine g_icmp_ne (tgt := 29) hC dX10_isAt_22 (by decide) ⟨by omega, by omega⟩ ⟨by omega, by omega⟩ (fun h22 => ?_) (fun h22 => ?_)
    · refine g_iconst hC dX10_isAt_29 ?_
      refine g_zret hC hI rfl (by decide +kernel) dX10_isAt_30 (Nat.le_of_ble_eq_true rfl) (Nat.le_of_ble_eq_true rfl) ⟨rfl, rfl, rfl, _, rfl, ?_⟩
      omega
    · refine g_iconst hC dX10_isAt_25 ?_
      refine g_goto (tgt := 30) hC dX10_isAt_26 (by decide) ?_
      refine g_zret hC hI rfl (by decide +kernel) dX10_isAt_30 (Nat.le_of_ble_eq_true rfl) (Nat.le_of_ble_eq_true rfl) ⟨rfl, rfl, rfl, _, rfl, ?_⟩
      omega
set_option maxHeartbeats 4000000 in
set_option maxRecDepth 100000 in
theorem kX10_open (lc : Launch) (D : va_G) (ac : Nat → ClassId) {sh : Nat → Nat × Nat} {rf : Nat → Nat → Option Nat} {mem : Nat → Nat → Int} (m : Nat) (B : Nat → Nat) (k : Nat) (xs : Lns) (p : Nat) (n : Int) (hM : MO sh rf m B) (hl : lnM B mem k xs) (ok : okL xs) (hk : 1 ≤ k ∧ k ≤ 80) (hn : xs.length < 30) (hp : p ≤ xs.length) : gMet lc D ac mX10_open 1 [.ref m, .int (iI k), .int (iI (30 * (k : Int) + p)), .int (iI n)] 0 0 sh rf mem (pV sh rf (fun mem1 => lnM B mem1 k (xs.insertIdx p (n, [])) ∧ frB B mem mem1 k ∧ chF m B mem mem1 [7, 9, 10, 11])) := by
  refine gMet.mk (by decide) (by intro v hv; simp at hv; (try rcases hv with rfl | rfl | rfl | rfl) <;> rfl) (Nat.le_of_ble_eq_true rfl) (fun X hC hI => ?_)
  show gG X sh rf mem 0 0 0 [some (.ref m), some (.int (iI k)), some (.int (iI (30 * (k : Int) + p))), some (.int (iI n)), none] []
  have hM9 := hM
  obtain ⟨mo, R4, S4, R5, S5, R6, S6, R7, S7, R8, S8, R9, S9, R10, S10, R11, S11, R12, S12, R13, S13, R14, S14, R15, S15, R16, S16, R17, S17, R19, S19, R20, S20, R21, S21, R22, S22, R25, S25, R26, S26, R27, S27, R30, S30, R31, S31, hBe, hBm, hmB⟩ := hM
  have l1 : mem (B 7) (k : Int).toNat = xs.length := hl.1
  have o1 := ok.1
  have ep : (30 * (k : Int) + p).toNat = 30 * k + p := by omega
  have J13 : ∀ (t q : Nat) (m1 : Nat → Nat → Int), p ≤ q → q ≤ xs.length → q < p + t → RLn B mem m1 (so (30 * k) xs.length q) → chF m B mem m1 [9, 10, 11] → gG X sh rf m1 0 0 13 [some (.ref m), some (.int (iI k)), some (.int (iI (30 * (k : Int) + p))), some (.int (iI n)), some (.int (iI (30 * (k : Int) + q)))] [] := by
    intro t
    induction t with
    | zero => intro q m1 c1 c2 c3; omega
    | succ t ih =>
      intro q m1 c1 c2 c3 c4 c5
      have h7 := (c5.1 7 (by decide)).2
      refine g_iload hC dX10_open_13 rfl ?_
      refine g_iload_n hC dX10_open_15 rfl ?_
      refine g_icmp_le (tgt := 35) hC dX10_open_16 (by decide) ⟨by omega, by omega⟩ ⟨by omega, by omega⟩ (fun h16 => ?_) (fun h16 => ?_)
      · obtain rfl : q = p := by omega
        have l7 : m1 (B 7) (k : Int).toNat = xs.length := by rw [h7]; exact l1
        refine g_aload_n hC dX10_open_35 rfl ?_
        refine g_getR hC fdX10_20 (by assumption) (by assumption) dX10_open_36 ?_
        refine g_iload_n hC dX10_open_39 rfl ?_
        refine g_dup2 hC dX10_open_40 rfl rfl ?_
        refine g_iald hC (by assumption) (by omega) (by omega) (by decide) dX10_open_41 ?_
        refine g_iconst hC dX10_open_42 ?_
        refine g_iadd hC dX10_open_43 ?_
        refine g_iast hC (by assumption) (by omega) (by omega) (by decide) dX10_open_44 ?_
        refine g_aload_n hC dX10_open_45 rfl ?_
        refine g_getR hC fdX10_26 (by assumption) (by assumption) dX10_open_46 ?_
        refine g_iload_n hC dX10_open_49 rfl ?_
        refine g_iload_n hC dX10_open_50 rfl ?_
        refine g_iast hC (by assumption) (by omega) (by omega) (by decide) dX10_open_51 ?_
        refine g_aload_n hC dX10_open_52 rfl ?_
        refine g_getR hC fdX10_29 (by assumption) (by assumption) dX10_open_53 ?_
        refine g_iload_n hC dX10_open_56 rfl ?_
        refine g_iconst hC dX10_open_57 ?_
        refine g_iast hC (by assumption) (by omega) (by omega) (by decide) dX10_open_58 ?_
        refine g_vret hC hI rfl dX10_open_59 (Nat.le_of_ble_eq_true rfl) (Nat.le_of_ble_eq_true rfl) ⟨rfl, rfl, rfl, ?_⟩
        rw [ep, l7]
        obtain ⟨k1, k2⟩ := open_view (n := n) hBe hl ok hn hp c4 h7
        exact ⟨k1, k2, (c5.trans ((chF.row hBe hmB).trans ((chF.row hBe hmB).trans (chF.row hBe hmB)))).mono (by decide)⟩
      · refine g_aload_n hC dX10_open_19 rfl ?_
        refine g_iload hC dX10_open_20 rfl ?_
        refine g_iconst hC dX10_open_22 ?_
        refine g_isub hC dX10_open_23 ?_
        refine g_iload hC dX10_open_24 rfl ?_
        rw [show (30 * (k : Int) + (q : Int)) - 1 = ((30 * k + q - 1 : Nat) : Int) by omega, show (30 * (k : Int) + (q : Int)) = ((30 * k + q : Nat) : Int) by omega]
        refine g_VV hC (kX10_moveLine (gl X) (gD X) (gac X) m B (30 * k + q - 1) (30 * k + q) hM9 (by omega)) cvX10_moveLine lkX10_110 (by assumption) rfl rfl (Nat.le_of_ble_eq_true rfl) (hI.fit (Nat.le_of_ble_eq_true rfl) (Nat.le_of_ble_eq_true rfl) (Nat.le_of_ble_eq_true rfl)) dX10_open_26 (fun mem26 hx26 => ?_)
        rw [show ((30 * k + q : Nat) : Int) = (30 * (k : Int) + (q : Int)) by omega]
        refine g_iinc hC dX10_open_29 rfl ?_
        dsimp only [List.set]
        refine g_goto (tgt := 13) hC dX10_open_32 (by decide) ?_
        first
        | (have := J13 (xs.length + 1) xs.length mem hp (Nat.le_refl _) (by omega) (by rw [so_0]; exact RLn.rf0) chF.rf0
           rw [l1]
           exact this)
        | (have := ih (q - 1) mem26 (by omega) (by omega) (by omega) (by rw [← so_s (by omega) c2]; exact c4.trans hx26.1) ((c5.trans hx26.2).mono (by decide))
           rw [show (30 * (k : Int) + (q : Int) + -1) = 30 * (k : Int) + ((q - 1 : Nat) : Int) by omega]
           exact this)
  refine g_bipush hC dX10_open_0 (by decide +kernel) ?_
  refine g_iload_n hC dX10_open_2 rfl ?_
  refine g_imul hC dX10_open_3 ?_
  refine g_aload_n hC dX10_open_4 rfl ?_
  refine g_getR hC fdX10_20 (by assumption) (by assumption) dX10_open_5 ?_
  refine g_iload_n hC dX10_open_8 rfl ?_
  refine g_iald hC (by assumption) (by omega) (by omega) (by decide) dX10_open_9 ?_
  refine g_iadd hC dX10_open_10 ?_
  refine g_istore hC dX10_open_11 (Nat.le_of_ble_eq_true rfl) ?_
  dsimp only [List.set]
  first
  | (have := J13 (xs.length + 1) xs.length mem hp (Nat.le_refl _) (by omega) (by rw [so_0]; exact RLn.rf0) chF.rf0
     rw [l1]
     exact this)
  | (have := ih (q - 1) mem26 (by omega) (by omega) (by omega) (by rw [← so_s (by omega) c2]; exact c4.trans hx26.1) ((c5.trans hx26.2).mono (by decide))
     rw [show (30 * (k : Int) + (q : Int) + -1) = 30 * (k : Int) + ((q - 1 : Nat) : Int) by omega]
     exact this)
set_option maxHeartbeats 4000000 in
set_option maxRecDepth 100000 in
theorem kX10_shut (lc : Launch) (D : va_G) (ac : Nat → ClassId) {sh : Nat → Nat × Nat} {rf : Nat → Nat → Option Nat} {mem : Nat → Nat → Int} (m : Nat) (B : Nat → Nat) (k : Nat) (xs : Lns) (p : Nat) (hM : MO sh rf m B) (hl : lnM B mem k xs) (ok : okL xs) (hk : 1 ≤ k ∧ k ≤ 80) (hp : p < xs.length) : gMet lc D ac mX10_shut 1 [.ref m, .int (iI k), .int (iI (30 * (k : Int) + p))] 0 0 sh rf mem (pV sh rf (fun mem1 => lnM B mem1 k (xs.eraseIdx p) ∧ frB B mem mem1 k ∧ chF m B mem mem1 [7, 9, 10, 11])) := by
  refine gMet.mk (by decide) (by intro v hv; simp at hv; (try rcases hv with rfl | rfl | rfl) <;> rfl) (Nat.le_of_ble_eq_true rfl) (fun X hC hI => ?_)
  show gG X sh rf mem 0 0 0 [some (.ref m), some (.int (iI k)), some (.int (iI (30 * (k : Int) + p))), none] []
  have hM9 := hM
  obtain ⟨mo, R4, S4, R5, S5, R6, S6, R7, S7, R8, S8, R9, S9, R10, S10, R11, S11, R12, S12, R13, S13, R14, S14, R15, S15, R16, S16, R17, S17, R19, S19, R20, S20, R21, S21, R22, S22, R25, S25, R26, S26, R27, S27, R30, S30, R31, S31, hBe, hBm, hmB⟩ := hM
  have l1 : mem (B 7) (k : Int).toNat = xs.length := hl.1
  have o1 := ok.1
  obtain ⟨mem0, e0⟩ : ∃ q, q = gup mem (B 7) k (xs.length - 1) := ⟨_, rfl⟩
  have c0 : chF m B mem mem0 [7] := by rw [e0]; exact chF.row hBe hmB
  have J12 : ∀ (t q : Nat) (m1 : Nat → Nat → Int), p ≤ q → q ≤ xs.length - 1 → xs.length - 1 < q + t → RLn B mem0 m1 (sc (30 * k) p q) → chF m B mem0 m1 [9, 10, 11] → gG X sh rf m1 0 0 12 [some (.ref m), some (.int (iI k)), some (.int (iI (30 * (k : Int) + p))), some (.int (iI (30 * (k : Int) + q)))] [] := by
    intro t
    induction t with
    | zero => intro q m1 c1 c2 c3; omega
    | succ t ih =>
      intro q m1 c1 c2 c3 c4 c5
      have h7 := (c5.1 7 (by decide)).2
      have l7 : m1 (B 7) (k : Int).toNat = xs.length - 1 := by rw [h7, e0]; exact gup_s _ _ _ _
      refine g_iload_n hC dX10_shut_12 rfl ?_
      refine g_bipush hC dX10_shut_13 (by decide +kernel) ?_
      refine g_iload_n hC dX10_shut_15 rfl ?_
      refine g_imul hC dX10_shut_16 ?_
      refine g_aload_n hC dX10_shut_17 rfl ?_
      refine g_getR hC fdX10_20 (by assumption) (by assumption) dX10_shut_18 ?_
      refine g_iload_n hC dX10_shut_21 rfl ?_
      refine g_iald hC (by assumption) (by omega) (by omega) (by decide) dX10_shut_22 ?_
      refine g_iadd hC dX10_shut_23 ?_
      refine g_icmp_ge (tgt := 41) hC dX10_shut_24 (by decide) ⟨by omega, by omega⟩ ⟨by omega, by omega⟩ (fun h24 => ?_) (fun h24 => ?_)
      · refine g_vret hC hI rfl dX10_shut_41 (Nat.le_of_ble_eq_true rfl) (Nat.le_of_ble_eq_true rfl) ⟨rfl, rfl, rfl, ?_⟩
        obtain rfl : q = xs.length - 1 := by omega
        have e9 := (c0.1 9 (by decide)).2
        have e10 := (c0.1 10 (by decide)).2
        have e11 := (c0.1 11 (by decide)).2
        have c4' : RLn B mem m1 (sc (30 * k) p (xs.length - 1)) := by
          intro a
          have := c4 a
          rw [e9, e10, e11] at this
          exact this
        obtain ⟨k1, k2⟩ := shut_view hl ok hp c4' l7 (fun j hj => by rw [h7, e0, gup_k _ _ _ _ hj])
        exact ⟨k1, k2, (c0.trans c5).mono (by decide)⟩
      · refine g_aload_n hC dX10_shut_27 rfl ?_
        refine g_iload_n hC dX10_shut_28 rfl ?_
        refine g_iconst hC dX10_shut_29 ?_
        refine g_iadd hC dX10_shut_30 ?_
        refine g_iload_n hC dX10_shut_31 rfl ?_
        rw [show (30 * (k : Int) + (q : Int)) + 1 = ((30 * k + q + 1 : Nat) : Int) by omega, show (30 * (k : Int) + (q : Int)) = ((30 * k + q : Nat) : Int) by omega]
        refine g_VV hC (kX10_moveLine (gl X) (gD X) (gac X) m B (30 * k + q + 1) (30 * k + q) hM9 (by omega)) cvX10_moveLine lkX10_110 (by assumption) rfl rfl (Nat.le_of_ble_eq_true rfl) (hI.fit (Nat.le_of_ble_eq_true rfl) (Nat.le_of_ble_eq_true rfl) (Nat.le_of_ble_eq_true rfl)) dX10_shut_32 (fun mem32 hx32 => ?_)
        rw [show ((30 * k + q : Nat) : Int) = (30 * (k : Int) + (q : Int)) by omega]
        refine g_iinc hC dX10_shut_35 rfl ?_
        dsimp only [List.set]
        refine g_goto (tgt := 12) hC dX10_shut_38 (by decide) ?_
        first
        | (have := J12 (xs.length + 1) p mem0 (Nat.le_refl _) (by omega) (by omega) (by rw [sc_0]; exact RLn.rf0) chF.rf0
           rw [e0] at this
           rw [l1]
           exact this)
        | (have := ih (q + 1) mem32 (by omega) (by omega) (by omega) (by rw [← sc_s c1]; exact c4.trans hx32.1) ((c5.trans hx32.2).mono (by decide))
           rw [show (30 * (k : Int) + (q : Int) + 1) = 30 * (k : Int) + ((q + 1 : Nat) : Int) by omega]
           exact this)
  refine g_aload_n hC dX10_shut_0 rfl ?_
  refine g_getR hC fdX10_20 (by assumption) (by assumption) dX10_shut_1 ?_
  refine g_iload_n hC dX10_shut_4 rfl ?_
  refine g_dup2 hC dX10_shut_5 rfl rfl ?_
  refine g_iald hC (by assumption) (by omega) (by omega) (by decide) dX10_shut_6 ?_
  refine g_iconst hC dX10_shut_7 ?_
  refine g_isub hC dX10_shut_8 ?_
  refine g_iast hC (by assumption) (by omega) (by omega) (by decide) dX10_shut_9 ?_
  refine g_iload_n hC dX10_shut_10 rfl ?_
  refine g_istore_n hC 3 rfl dX10_shut_11 (Nat.le_of_ble_eq_true rfl) ?_
  dsimp only [List.set]
  first
  | (have := J12 (xs.length + 1) p mem0 (Nat.le_refl _) (by omega) (by omega) (by rw [sc_0]; exact RLn.rf0) chF.rf0
     rw [e0] at this
     rw [l1]
     exact this)
  | (have := ih (q + 1) mem32 (by omega) (by omega) (by omega) (by rw [← sc_s c1]; exact c4.trans hx32.1) ((c5.trans hx32.2).mono (by decide))
     rw [show (30 * (k : Int) + (q : Int) + 1) = 30 * (k : Int) + ((q + 1 : Nat) : Int) by omega]
     exact this)
set_option maxHeartbeats 4000000 in
set_option maxRecDepth 100000 in
theorem kX10_lines (lc : Launch) (D : va_G) (ac : Nat → ClassId) {sh : Nat → Nat × Nat} {rf : Nat → Nat → Option Nat} {mem : Nat → Nat → Int} (m : Nat) (B : Nat → Nat) (f t : Nat) (xs : Lns) (hM : MO sh rf m B) (hl : lnM B mem f xs) (ok : okL xs) (hk : 1 ≤ f ∧ f ≤ 80 ∧ 1 ≤ t ∧ t ≤ 80 ∧ f ≠ t) : gMet lc D ac mX10_lines 1 [.ref m, .int (iI f), .int (iI t)] 0 0 sh rf mem (pV sh rf (fun mem1 => lnM B mem1 t xs ∧ frB B mem mem1 t ∧ chF m B mem mem1 [7, 9, 10, 11])) := by
  refine gMet.mk (by decide) (by intro v hv; simp at hv; (try rcases hv with rfl | rfl | rfl) <;> rfl) (Nat.le_of_ble_eq_true rfl) (fun X hC hI => ?_)
  show gG X sh rf mem 0 0 0 [some (.ref m), some (.int (iI f)), some (.int (iI t)), none] []
  have hM9 := hM
  obtain ⟨mo, R4, S4, R5, S5, R6, S6, R7, S7, R8, S8, R9, S9, R10, S10, R11, S11, R12, S12, R13, S13, R14, S14, R15, S15, R16, S16, R17, S17, R19, S19, R20, S20, R21, S21, R22, S22, R25, S25, R26, S26, R27, S27, R30, S30, R31, S31, hBe, hBm, hmB⟩ := hM
  have l1 : mem (B 7) (f : Int).toNat = xs.length := hl.1
  have o1 := ok.1
  obtain ⟨mem0, e0⟩ : ∃ q, q = gup mem (B 7) t (xs.length) := ⟨_, rfl⟩
  have c0 : chF m B mem mem0 [7] := by rw [e0]; exact chF.row hBe hmB
  have J14 : ∀ (s q : Nat) (m1 : Nat → Nat → Int), q ≤ xs.length → xs.length < q + s → RLn B mem0 m1 (sl (30 * f) (30 * t) q) → chF m B mem0 m1 [9, 10, 11] → gG X sh rf m1 0 0 14 [some (.ref m), some (.int (iI f)), some (.int (iI t)), some (.int (iI q))] [] := by
    intro s
    induction s with
    | zero => intro q m1 c1 c2; omega
    | succ s ih =>
      intro q m1 c1 c2 c4 c5
      have h7 := (c5.1 7 (by decide)).2
      have l7 : m1 (B 7) (f : Int).toNat = xs.length := by rw [h7, e0, gup_k _ _ _ _ (by omega)]; exact l1
      refine g_iload_n hC dX10_lines_14 rfl ?_
      refine g_aload_n hC dX10_lines_15 rfl ?_
      refine g_getR hC fdX10_20 (by assumption) (by assumption) dX10_lines_16 ?_
      refine g_iload_n hC dX10_lines_19 rfl ?_
      refine g_iald hC (by assumption) (by omega) (by omega) (by decide) dX10_lines_20 ?_
      refine g_icmp_ge (tgt := 46) hC dX10_lines_21 (by decide) ⟨by omega, by omega⟩ ⟨by omega, by omega⟩ (fun h21 => ?_) (fun h21 => ?_)
      · refine g_vret hC hI rfl dX10_lines_46 (Nat.le_of_ble_eq_true rfl) (Nat.le_of_ble_eq_true rfl) ⟨rfl, rfl, rfl, ?_⟩
        obtain rfl : q = xs.length := by omega
        have e9 := (c0.1 9 (by decide)).2
        have e10 := (c0.1 10 (by decide)).2
        have e11 := (c0.1 11 (by decide)).2
        have c4' : RLn B mem m1 (sl (30 * f) (30 * t) xs.length) := by
          intro a
          have := c4 a
          rw [e9, e10, e11] at this
          exact this
        obtain ⟨k1, k2⟩ := lines_view (f := f) (t := t) hl ok c4' (by rw [h7, e0, gup_s]) (fun j hj => by rw [h7, e0, gup_k _ _ _ _ hj])
        exact ⟨k1, k2, (c0.trans c5).mono (by decide)⟩
      · refine g_aload_n hC dX10_lines_24 rfl ?_
        refine g_bipush hC dX10_lines_25 (by decide +kernel) ?_
        refine g_iload_n hC dX10_lines_27 rfl ?_
        refine g_imul hC dX10_lines_28 ?_
        refine g_iload_n hC dX10_lines_29 rfl ?_
        refine g_iadd hC dX10_lines_30 ?_
        refine g_bipush hC dX10_lines_31 (by decide +kernel) ?_
        refine g_iload_n hC dX10_lines_33 rfl ?_
        refine g_imul hC dX10_lines_34 ?_
        refine g_iload_n hC dX10_lines_35 rfl ?_
        refine g_iadd hC dX10_lines_36 ?_
        rw [show (30 * (f : Int) + (q : Int)) = ((30 * f + q : Nat) : Int) by omega, show (30 * (t : Int) + (q : Int)) = ((30 * t + q : Nat) : Int) by omega]
        refine g_VV hC (kX10_moveLine (gl X) (gD X) (gac X) m B (30 * f + q) (30 * t + q) hM9 (by omega)) cvX10_moveLine lkX10_110 (by assumption) rfl rfl (Nat.le_of_ble_eq_true rfl) (hI.fit (Nat.le_of_ble_eq_true rfl) (Nat.le_of_ble_eq_true rfl) (Nat.le_of_ble_eq_true rfl)) dX10_lines_37 (fun mem37 hx37 => ?_)
        refine g_iinc hC dX10_lines_40 rfl ?_
        dsimp only [List.set]
        refine g_goto (tgt := 14) hC dX10_lines_43 (by decide) ?_
        first
        | (have := J14 (xs.length + 1) 0 mem0 (Nat.zero_le _) (by omega) (by rw [sl_0]; exact RLn.rf0) chF.rf0
           rw [e0] at this
           rw [l1]
           exact this)
        | exact ih (q + 1) mem37 (by omega) (by omega) (by rw [← sl_s (by omega)]; exact c4.trans hx37.1) ((c5.trans hx37.2).mono (by decide))
  refine g_aload_n hC dX10_lines_0 rfl ?_
  refine g_getR hC fdX10_20 (by assumption) (by assumption) dX10_lines_1 ?_
  refine g_iload_n hC dX10_lines_4 rfl ?_
  refine g_aload_n hC dX10_lines_5 rfl ?_
  refine g_getR hC fdX10_20 (by assumption) (by assumption) dX10_lines_6 ?_
  refine g_iload_n hC dX10_lines_9 rfl ?_
  refine g_iald hC (by assumption) (by omega) (by omega) (by decide) dX10_lines_10 ?_
  refine g_iast hC (by assumption) (by omega) (by omega) (by decide) dX10_lines_11 ?_
  refine g_iconst hC dX10_lines_12 ?_
  refine g_istore_n hC 3 rfl dX10_lines_13 (Nat.le_of_ble_eq_true rfl) ?_
  dsimp only [List.set]
  first
  | (have := J14 (xs.length + 1) 0 mem0 (Nat.zero_le _) (by omega) (by rw [sl_0]; exact RLn.rf0) chF.rf0
     rw [e0] at this
     rw [l1]
     exact this)
  | exact ih (q + 1) mem37 (by omega) (by omega) (by rw [← sl_s (by omega)]; exact c4.trans hx37.1) ((c5.trans hx37.2).mono (by decide))
