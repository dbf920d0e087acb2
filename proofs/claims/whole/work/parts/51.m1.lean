section M1
variable {sh : Nat → Nat × Nat} {rf : Nat → Nat → Option Nat} {mem mem1 mem2 : Nat → Nat → Int} {m : Nat} {B : Nat → Nat} {ms : List (Option MemT)} {ss : List (Option SetT)}
theorem gone_at {l : Int} (h : vM m B mem ms) (h1 : 1 ≤ l) (h2 : l ≤ ms.length) : (mem (B 8) l.toNat = 0 ∧ memAt ms l ≠ none) ∨ (mem (B 8) l.toNat = 1 ∧ memAt ms l = none) := by
  have e : l.toNat = (l - 1).toNat + 1 := by omega
  have w := h.2.1 (l - 1).toNat (by omega)
  rw [e, memAt, if_pos h1]
  cases q : ms.getD (l - 1).toNat none with
  | none => exact Or.inr ⟨w.1 q, rfl⟩
  | some x => exact Or.inl ⟨(w.2 x q).1, by simp⟩
theorem memAt_far {l : Int} (h : ¬ (1 ≤ l ∧ l ≤ ms.length)) : memAt ms l = none := by
  cases e : memAt ms l with
  | none => rfl
  | some x => exact absurd ⟨(memAt_some e).1, (memAt_some e).2.1⟩ h
theorem sgone_at {l : Int} (h : vS m B mem ss) (h1 : 1 ≤ l) (h2 : l ≤ ss.length) : (mem (B 17) l.toNat = 0 ∧ setAt ss l ≠ none) ∨ (mem (B 17) l.toNat = 1 ∧ setAt ss l = none) := by
  have e : l.toNat = (l - 1).toNat + 1 := by omega
  have w := h.2.1 (l - 1).toNat (by omega)
  rw [e, setAt, if_pos h1]
  cases q : ss.getD (l - 1).toNat none with
  | none => exact Or.inr ⟨w.1 q, rfl⟩
  | some x => exact Or.inl ⟨(w.2 x q).1, by simp⟩
theorem setAt_far {l : Int} (h : ¬ (1 ≤ l ∧ l ≤ ss.length)) : setAt ss l = none := by
  cases e : setAt ss l with
  | none => rfl
  | some x => exact absurd ⟨(setAt_some e).1, (setAt_some e).2.1⟩ h
/-- lines moved about -/
def RLn (B : Nat → Nat) (mem mem1 : Nat → Nat → Int) (σ : Nat → Nat) : Prop := ∀ a, mem1 (B 9) a = mem (B 9) (σ a) ∧ mem1 (B 10) a = mem (B 10) (σ a) ∧ ∀ i, i < 10 → mem1 (B 11) (10 * a + i) = mem (B 11) (10 * σ a + i)
theorem RLn.trans {σ τ : Nat → Nat} (h : RLn B mem mem1 σ) (k : RLn B mem1 mem2 τ) : RLn B mem mem2 (fun a => σ (τ a)) := fun a => ⟨(k a).1.trans (h (τ a)).1, (k a).2.1.trans (h (τ a)).2.1, fun i hi => ((k a).2.2 i hi).trans ((h (τ a)).2.2 i hi)⟩
theorem RLn.rf0 : RLn B mem mem (fun a => a) := fun _ => ⟨rfl, rfl, fun _ _ => rfl⟩
def mvk (B : Nat → Nat) (mem : Nat → Nat → Int) (f t k : Nat) : Nat → Nat → Int := fun b j => if b = B 9 ∧ j = t then mem (B 9) f else if b = B 10 ∧ j = t then mem (B 10) f else if b = B 11 ∧ 10 * t ≤ j ∧ j < 10 * t + k then mem (B 11) (10 * f + (j - 10 * t)) else mem b j
theorem mvk_0 {f t : Nat} (hBe : ∀ i j, (B i = B j) = (i = j)) : gup (gup mem (B 9) t (mem (B 9) f)) (B 10) t (gup mem (B 9) t (mem (B 9) f) (B 10) f) = mvk B mem f t 0 := by
  funext b j
  simp only [gup, mvk, hBe]
  by_cases h1 : b = B 9
  · subst h1
    simp [hBe]
  · by_cases h2 : b = B 10
    · subst h2
      simp [hBe]
    · simp [h1, h2]
      intro _ _ _; omega
theorem mvk_s {f t k : Nat} (hBe : ∀ i j, (B i = B j) = (i = j)) (hf : f ≠ t) (hk : k < 10) : gup (mvk B mem f t k) (B 11) (10 * t + k) (mvk B mem f t k (B 11) (10 * f + k)) = mvk B mem f t (k + 1) := by
  have e : mvk B mem f t k (B 11) (10 * f + k) = mem (B 11) (10 * f + k) := by
    simp only [mvk, hBe]
    rw [if_neg (by simp), if_neg (by simp), if_neg (by omega)]
  rw [e]
  funext b j
  unfold gup
  by_cases h : b = B 11 ∧ j = 10 * t + k
  · obtain ⟨rfl, rfl⟩ := h
    rw [if_pos ⟨rfl, rfl⟩]
    simp only [mvk, hBe]
    rw [if_neg (by simp), if_neg (by simp), if_pos ⟨trivial, by omega, by omega⟩]
    congr 1
    omega
  · rw [if_neg h]
    unfold mvk
    by_cases h1 : b = B 9 ∧ j = t
    · rw [if_pos h1, if_pos h1]
    · rw [if_neg h1, if_neg h1]
      by_cases h2 : b = B 10 ∧ j = t
      · rw [if_pos h2, if_pos h2]
      · rw [if_neg h2, if_neg h2]
        by_cases h3 : b = B 11 ∧ 10 * t ≤ j ∧ j < 10 * t + k
        · rw [if_pos h3, if_pos ⟨h3.1, h3.2.1, by omega⟩]
        · rw [if_neg h3, if_neg (fun w => by
            by_cases h4 : j = 10 * t + k
            · exact h ⟨w.1, h4⟩
            · exact h3 ⟨w.1, w.2.1, by omega⟩)]
theorem mvk_RL {f t : Nat} (hBe : ∀ i j, (B i = B j) = (i = j)) (hmB : ∀ i, (m = B i) = False) : RLn B mem (mvk B mem f t 10) (fun a => if a = t then f else a) ∧ chF m B mem (mvk B mem f t 10) [9, 10, 11] := by
  refine ⟨fun a => ⟨?_, ?_, fun i hi => ?_⟩, fun f hf => ⟨?_, ?_⟩, fun b h1 h2 => ?_⟩
  · by_cases e : a = t
    · simp [mvk, hBe, e]
    · simp [mvk, hBe, e]
  · by_cases e : a = t
    · simp [mvk, hBe, e]
    · simp [mvk, hBe, e]
  · by_cases e : a = t
    · subst e
      simp only [mvk, hBe]
      rw [if_neg (by simp), if_neg (by simp), if_pos ⟨trivial, by omega, by omega⟩]
      simp only [if_true]
      congr 1
      omega
    · simp only [mvk, hBe]
      rw [if_neg (by simp), if_neg (by simp), if_neg (by omega), if_neg e]
  · simp [mvk, hmB]
  · funext j
    simp at hf
    simp [mvk, hBe, hf]
  · funext j
    simp [mvk, h2]
end M1
set_option maxHeartbeats 4000000 in
set_option maxRecDepth 100000 in
theorem kX10_thrown (lc : Launch) (D : va_G) (ac : Nat → ClassId) {sh : Nat → Nat × Nat} {rf : Nat → Nat → Option Nat} {mem : Nat → Nat → Int} (m : Nat) (B : Nat → Nat) (hM : MO sh rf m B) : gMet lc D ac mX10_thrown 0 [.ref m] 0 0 sh rf mem (pP sh rf mem (fun r => r = mem m 0)) := by
  refine gMet.mk (by decide) (by intro v hv; simp at hv; (try rcases hv with rfl) <;> rfl) (Nat.le_of_ble_eq_true rfl) (fun X hC hI => ?_)
  show gG X sh rf mem 0 0 0 [some (.ref m)] []
  have hM9 := hM
  obtain ⟨mo, R4, S4, R5, S5, R6, S6, R7, S7, R8, S8, R9, S9, R10, S10, R11, S11, R12, S12, R13, S13, R14, S14, R15, S15, R16, S16, R17, S17, R19, S19, R20, S20, R21, S21, R22, S22, R25, S25, R26, S26, R27, S27, R30, S30, R31, S31, hBe, hBm, hmB⟩ := hM
  refine g_aload_n hC dX10_thrown_0 rfl ?_
  refine g_getI hC fdX10_84 (by assumption) dX10_thrown_1 ?_
  refine g_iret hC hI rfl dX10_thrown_4 (Nat.le_of_ble_eq_true rfl) (Nat.le_of_ble_eq_true rfl) ⟨rfl, rfl, rfl, _, rfl, ?_⟩
  rfl
set_option maxHeartbeats 4000000 in
set_option maxRecDepth 100000 in
theorem kX10_isName (lc : Launch) (D : va_G) (ac : Nat → ClassId) {sh : Nat → Nat × Nat} {rf : Nat → Nat → Option Nat} {mem : Nat → Nat → Int} (n : Int) (h_p : inR n) : gMet lc D ac mX10_isName 0 [.int (iI n)] 0 0 sh rf mem (pP sh rf mem (fun r => (r = 1 ∧ 0 ≤ n ∧ n < 100) ∨ (r = 0 ∧ ¬ (0 ≤ n ∧ n < 100)))) := by
  refine gMet.mk (by decide) (by intro v hv; simp at hv; (try rcases hv with rfl) <;> rfl) (Nat.le_of_ble_eq_true rfl) (fun X hC hI => ?_)
  show gG X sh rf mem 0 0 0 [some (.int (iI n))] []
  have i_p := h_p
  obtain ⟨p1, p2⟩ := h_p
  refine g_iload_n hC dX10_isName_0 rfl ?_
  refine g_if_lt (tgt := 14) hC dX10_isName_1 (by decide) ⟨by omega, by omega⟩ (fun h1 => ?_) (fun h1 => ?_)
  · refine g_iconst hC dX10_isName_14 ?_
    refine g_zret hC hI rfl (by decide +kernel) dX10_isName_15 (Nat.le_of_ble_eq_true rfl) (Nat.le_of_ble_eq_true rfl) ⟨rfl, rfl, rfl, _, rfl, ?_⟩
    omega
  · refine g_iload_n hC dX10_isName_4 rfl ?_
    refine g_bipush hC dX10_isName_5 (by decide +kernel) ?_
    refine g_icmp_ge (tgt := 14) hC dX10_isName_7 (by decide) ⟨by omega, by omega⟩ ⟨by omega, by omega⟩ (fun h7 => ?_) (fun h7 => ?_)
    · refine g_iconst hC dX10_isName_14 ?_
      refine g_zret hC hI rfl (by decide +kernel) dX10_isName_15 (Nat.le_of_ble_eq_true rfl) (Nat.le_of_ble_eq_true rfl) ⟨rfl, rfl, rfl, _, rfl, ?_⟩
      omega
    · refine g_iconst hC dX10_isName_10 ?_
      refine g_goto (tgt := 15) hC dX10_isName_11 (by decide) ?_
      refine g_zret hC hI rfl (by decide +kernel) dX10_isName_15 (Nat.le_of_ble_eq_true rfl) (Nat.le_of_ble_eq_true rfl) ⟨rfl, rfl, rfl, _, rfl, ?_⟩
      omega
set_option maxHeartbeats 4000000 in
set_option maxRecDepth 100000 in
theorem kX10_isSign (lc : Launch) (D : va_G) (ac : Nat → ClassId) {sh : Nat → Nat × Nat} {rf : Nat → Nat → Option Nat} {mem : Nat → Nat → Int} (n : Int) (h_p : inR n) : gMet lc D ac mX10_isSign 0 [.int (iI n)] 0 0 sh rf mem (pP sh rf mem (fun r => (r = 1 ∧ 32 ≤ n ∧ n ≤ 126) ∨ (r = 0 ∧ ¬ (32 ≤ n ∧ n ≤ 126)))) := by
  refine gMet.mk (by decide) (by intro v hv; simp at hv; (try rcases hv with rfl) <;> rfl) (Nat.le_of_ble_eq_true rfl) (fun X hC hI => ?_)
  show gG X sh rf mem 0 0 0 [some (.int (iI n))] []
  have i_p := h_p
  obtain ⟨p1, p2⟩ := h_p
  refine g_iload_n hC dX10_isSign_0 rfl ?_
  refine g_bipush hC dX10_isSign_1 (by decide +kernel) ?_
  refine g_icmp_lt (tgt := 16) hC dX10_isSign_3 (by decide) ⟨by omega, by omega⟩ ⟨by omega, by omega⟩ (fun h3 => ?_) (fun h3 => ?_)
  · refine g_iconst hC dX10_isSign_16 ?_
    refine g_zret hC hI rfl (by decide +kernel) dX10_isSign_17 (Nat.le_of_ble_eq_true rfl) (Nat.le_of_ble_eq_true rfl) ⟨rfl, rfl, rfl, _, rfl, ?_⟩
    omega
  · refine g_iload_n hC dX10_isSign_6 rfl ?_
    refine g_bipush hC dX10_isSign_7 (by decide +kernel) ?_
    refine g_icmp_gt (tgt := 16) hC dX10_isSign_9 (by decide) ⟨by omega, by omega⟩ ⟨by omega, by omega⟩ (fun h9 => ?_) (fun h9 => ?_)
    · refine g_iconst hC dX10_isSign_16 ?_
      refine g_zret hC hI rfl (by decide +kernel) dX10_isSign_17 (Nat.le_of_ble_eq_true rfl) (Nat.le_of_ble_eq_true rfl) ⟨rfl, rfl, rfl, _, rfl, ?_⟩
      omega
    · refine g_iconst hC dX10_isSign_12 ?_
      refine g_goto (tgt := 17) hC dX10_isSign_13 (by decide) ?_
      refine g_zret hC hI rfl (by decide +kernel) dX10_isSign_17 (Nat.le_of_ble_eq_true rfl) (Nat.le_of_ble_eq_true rfl) ⟨rfl, rfl, rfl, _, rfl, ?_⟩
      omega
set_option maxHeartbeats 4000000 in
set_option maxRecDepth 100000 in
theorem kX10_isNumber (lc : Launch) (D : va_G) (ac : Nat → ClassId) {sh : Nat → Nat × Nat} {rf : Nat → Nat → Option Nat} {mem : Nat → Nat → Int} (n : Int) (h_p : inR n) : gMet lc D ac mX10_isNumber 0 [.int (iI n)] 0 0 sh rf mem (pP sh rf mem (fun r => (r = 1 ∧ 1 ≤ n ∧ n ≤ 9999) ∨ (r = 0 ∧ ¬ (1 ≤ n ∧ n ≤ 9999)))) := by
  refine gMet.mk (by decide) (by intro v hv; simp at hv; (try rcases hv with rfl) <;> rfl) (Nat.le_of_ble_eq_true rfl) (fun X hC hI => ?_)
  show gG X sh rf mem 0 0 0 [some (.int (iI n))] []
  have i_p := h_p
  obtain ⟨p1, p2⟩ := h_p
  refine g_iload_n hC dX10_isNumber_0 rfl ?_
  refine g_iconst hC dX10_isNumber_1 ?_
  refine g_icmp_lt (tgt := 16) hC dX10_isNumber_2 (by decide) ⟨by omega, by omega⟩ ⟨by omega, by omega⟩ (fun h2 => ?_) (fun h2 => ?_)
  · refine g_iconst hC dX10_isNumber_16 ?_
    refine g_zret hC hI rfl (by decide +kernel) dX10_isNumber_17 (Nat.le_of_ble_eq_true rfl) (Nat.le_of_ble_eq_true rfl) ⟨rfl, rfl, rfl, _, rfl, ?_⟩
    omega
  · refine g_iload_n hC dX10_isNumber_5 rfl ?_
    refine g_sipush hC dX10_isNumber_6 (by decide +kernel) ?_
    refine g_icmp_gt (tgt := 16) hC dX10_isNumber_9 (by decide) ⟨by omega, by omega⟩ ⟨by omega, by omega⟩ (fun h9 => ?_) (fun h9 => ?_)
    · refine g_iconst hC dX10_isNumber_16 ?_
      refine g_zret hC hI rfl (by decide +kernel) dX10_isNumber_17 (Nat.le_of_ble_eq_true rfl) (Nat.le_of_ble_eq_true rfl) ⟨rfl, rfl, rfl, _, rfl, ?_⟩
      omega
    · refine g_iconst hC dX10_isNumber_12 ?_
      refine g_goto (tgt := 17) hC dX10_isNumber_13 (by decide) ?_
      refine g_zret hC hI rfl (by decide +kernel) dX10_isNumber_17 (Nat.le_of_ble_eq_true rfl) (Nat.le_of_ble_eq_true rfl) ⟨rfl, rfl, rfl, _, rfl, ?_⟩
      omega
set_option maxHeartbeats 4000000 in
set_option maxRecDepth 100000 in
theorem kX10_isLibrary (lc : Launch) (D : va_G) (ac : Nat → ClassId) {sh : Nat → Nat × Nat} {rf : Nat → Nat → Option Nat} {mem : Nat → Nat → Int} (m : Nat) (B : Nat → Nat) (rp : List Int) (l : Int) (hM : MO sh rf m B) (hv : vL m B mem rp) (hk : okR rp) (h_p : inR l) : gMet lc D ac mX10_isLibrary 0 [.ref m, .int (iI l)] 0 0 sh rf mem (pP sh rf mem (fun r => (r = 1 ∧ 1 ≤ l ∧ l ≤ rp.length) ∨ (r = 0 ∧ ¬ (1 ≤ l ∧ l ≤ rp.length)))) := by
  refine gMet.mk (by decide) (by intro v hv; simp at hv; (try rcases hv with rfl | rfl) <;> rfl) (Nat.le_of_ble_eq_true rfl) (fun X hC hI => ?_)
  show gG X sh rf mem 0 0 0 [some (.ref m), some (.int (iI l))] []
  have hM9 := hM
  obtain ⟨mo, R4, S4, R5, S5, R6, S6, R7, S7, R8, S8, R9, S9, R10, S10, R11, S11, R12, S12, R13, S13, R14, S14, R15, S15, R16, S16, R17, S17, R19, S19, R20, S20, R21, S21, R22, S22, R25, S25, R26, S26, R27, S27, R30, S30, R31, S31, hBe, hBm, hmB⟩ := hM
  have i_p := h_p
  obtain ⟨p1, p2⟩ := h_p
  have v1 := hv.1
  have k1 := hk.1
  refine g_iload_n hC dX10_isLibrary_0 rfl ?_
  refine g_iconst hC dX10_isLibrary_1 ?_
  refine g_icmp_lt (tgt := 17) hC dX10_isLibrary_2 (by decide) ⟨by omega, by omega⟩ ⟨by omega, by omega⟩ (fun h2 => ?_) (fun h2 => ?_)
  · refine g_iconst hC dX10_isLibrary_17 ?_
    refine g_zret hC hI rfl (by decide +kernel) dX10_isLibrary_18 (Nat.le_of_ble_eq_true rfl) (Nat.le_of_ble_eq_true rfl) ⟨rfl, rfl, rfl, _, rfl, ?_⟩
    omega
  · refine g_iload_n hC dX10_isLibrary_5 rfl ?_
    refine g_aload_n hC dX10_isLibrary_6 rfl ?_
    refine g_getI hC fdX10_87 (by assumption) dX10_isLibrary_7 ?_
    refine g_icmp_gt (tgt := 17) hC dX10_isLibrary_10 (by decide) ⟨by omega, by omega⟩ ⟨by omega, by omega⟩ (fun h10 => ?_) (fun h10 => ?_)
    · refine g_iconst hC dX10_isLibrary_17 ?_
      refine g_zret hC hI rfl (by decide +kernel) dX10_isLibrary_18 (Nat.le_of_ble_eq_true rfl) (Nat.le_of_ble_eq_true rfl) ⟨rfl, rfl, rfl, _, rfl, ?_⟩
      omega
    · refine g_iconst hC dX10_isLibrary_13 ?_
      refine g_goto (tgt := 18) hC dX10_isLibrary_14 (by decide) ?_
      refine g_zret hC hI rfl (by decide +kernel) dX10_isLibrary_18 (Nat.le_of_ble_eq_true rfl) (Nat.le_of_ble_eq_true rfl) ⟨rfl, rfl, rfl, _, rfl, ?_⟩
      omega
set_option maxHeartbeats 4000000 in
set_option maxRecDepth 100000 in
theorem kX10_isMember (lc : Launch) (D : va_G) (ac : Nat → ClassId) {sh : Nat → Nat × Nat} {rf : Nat → Nat → Option Nat} {mem : Nat → Nat → Int} (m : Nat) (B : Nat → Nat) (ms : List (Option MemT)) (l : Int) (hM : MO sh rf m B) (hv : vM m B mem ms) (hk : okM ms) (h_p : inR l) : gMet lc D ac mX10_isMember 0 [.ref m, .int (iI l)] 0 0 sh rf mem (pP sh rf mem (fun r => (r = 1 ∧ memAt ms l ≠ none) ∨ (r = 0 ∧ memAt ms l = none))) := by
  refine gMet.mk (by decide) (by intro v hv; simp at hv; (try rcases hv with rfl | rfl) <;> rfl) (Nat.le_of_ble_eq_true rfl) (fun X hC hI => ?_)
  show gG X sh rf mem 0 0 0 [some (.ref m), some (.int (iI l))] []
  have hM9 := hM
  obtain ⟨mo, R4, S4, R5, S5, R6, S6, R7, S7, R8, S8, R9, S9, R10, S10, R11, S11, R12, S12, R13, S13, R14, S14, R15, S15, R16, S16, R17, S17, R19, S19, R20, S20, R21, S21, R22, S22, R25, S25, R26, S26, R27, S27, R30, S30, R31, S31, hBe, hBm, hmB⟩ := hM
  have i_p := h_p
  obtain ⟨p1, p2⟩ := h_p
  have v1 := hv.1
  have k1 := hk.1
  refine g_iload_n hC dX10_isMember_0 rfl ?_
  refine g_iconst hC dX10_isMember_1 ?_
  refine g_icmp_lt (tgt := 26) hC dX10_isMember_2 (by decide) ⟨by omega, by omega⟩ ⟨by omega, by omega⟩ (fun h2 => ?_) (fun h2 => ?_)
  · refine g_iconst hC dX10_isMember_26 ?_
    refine g_zret hC hI rfl (by decide +kernel) dX10_isMember_27 (Nat.le_of_ble_eq_true rfl) (Nat.le_of_ble_eq_true rfl) ⟨rfl, rfl, rfl, _, rfl, ?_⟩
    first
    | exact Or.inr ⟨rfl, memAt_far (by omega)⟩
    | (rcases q with ⟨q1, q2⟩ | ⟨q1, q2⟩
       · first | exact Or.inl ⟨rfl, q2⟩ | (exfalso; omega)
       · first | exact Or.inr ⟨rfl, q2⟩ | (exfalso; omega))
  · refine g_iload_n hC dX10_isMember_5 rfl ?_
    refine g_aload_n hC dX10_isMember_6 rfl ?_
    refine g_getI hC fdX10_90 (by assumption) dX10_isMember_7 ?_
    refine g_icmp_gt (tgt := 26) hC dX10_isMember_10 (by decide) ⟨by omega, by omega⟩ ⟨by omega, by omega⟩ (fun h10 => ?_) (fun h10 => ?_)
    · refine g_iconst hC dX10_isMember_26 ?_
      refine g_zret hC hI rfl (by decide +kernel) dX10_isMember_27 (Nat.le_of_ble_eq_true rfl) (Nat.le_of_ble_eq_true rfl) ⟨rfl, rfl, rfl, _, rfl, ?_⟩
      first
      | exact Or.inr ⟨rfl, memAt_far (by omega)⟩
      | (rcases q with ⟨q1, q2⟩ | ⟨q1, q2⟩
         · first | exact Or.inl ⟨rfl, q2⟩ | (exfalso; omega)
         · first | exact Or.inr ⟨rfl, q2⟩ | (exfalso; omega))
    · refine g_aload_n hC dX10_isMember_13 rfl ?_
      refine g_getR hC fdX10_23 (by assumption) (by assumption) dX10_isMember_14 ?_
      refine g_iload_n hC dX10_isMember_17 rfl ?_
      refine g_zald hC (by assumption) (by omega) (by omega) (by decide) dX10_isMember_18 ?_
      have q := gone_at hv (l := l) (by omega) (by omega)
      refine g_if_ne (tgt := 26) hC dX10_isMember_19 (by decide) ⟨by omega, by omega⟩ (fun h19 => ?_) (fun h19 => ?_)
      · refine g_iconst hC dX10_isMember_26 ?_
        refine g_zret hC hI rfl (by decide +kernel) dX10_isMember_27 (Nat.le_of_ble_eq_true rfl) (Nat.le_of_ble_eq_true rfl) ⟨rfl, rfl, rfl, _, rfl, ?_⟩
        first
        | exact Or.inr ⟨rfl, memAt_far (by omega)⟩
        | (rcases q with ⟨q1, q2⟩ | ⟨q1, q2⟩
           · first | exact Or.inl ⟨rfl, q2⟩ | (exfalso; omega)
           · first | exact Or.inr ⟨rfl, q2⟩ | (exfalso; omega))
      · refine g_iconst hC dX10_isMember_22 ?_
        refine g_goto (tgt := 27) hC dX10_isMember_23 (by decide) ?_
        refine g_zret hC hI rfl (by decide +kernel) dX10_isMember_27 (Nat.le_of_ble_eq_true rfl) (Nat.le_of_ble_eq_true rfl) ⟨rfl, rfl, rfl, _, rfl, ?_⟩
        first
        | exact Or.inr ⟨rfl, memAt_far (by omega)⟩
        | (rcases q with ⟨q1, q2⟩ | ⟨q1, q2⟩
           · first | exact Or.inl ⟨rfl, q2⟩ | (exfalso; omega)
           · first | exact Or.inr ⟨rfl, q2⟩ | (exfalso; omega))
set_option maxHeartbeats 4000000 in
set_option maxRecDepth 100000 in
theorem kX10_isSet (lc : Launch) (D : va_G) (ac : Nat → ClassId) {sh : Nat → Nat × Nat} {rf : Nat → Nat → Option Nat} {mem : Nat → Nat → Int} (m : Nat) (B : Nat → Nat) (ss : List (Option SetT)) (l : Int) (hM : MO sh rf m B) (hv : vS m B mem ss) (hk : okS ss) (h_p : inR l) : gMet lc D ac mX10_isSet 0 [.ref m, .int (iI l)] 0 0 sh rf mem (pP sh rf mem (fun r => (r = 1 ∧ setAt ss l ≠ none) ∨ (r = 0 ∧ setAt ss l = none))) := by
  refine gMet.mk (by decide) (by intro v hv; simp at hv; (try rcases hv with rfl | rfl) <;> rfl) (Nat.le_of_ble_eq_true rfl) (fun X hC hI => ?_)
  show gG X sh rf mem 0 0 0 [some (.ref m), some (.int (iI l))] []
  have hM9 := hM
  obtain ⟨mo, R4, S4, R5, S5, R6, S6, R7, S7, R8, S8, R9, S9, R10, S10, R11, S11, R12, S12, R13, S13, R14, S14, R15, S15, R16, S16, R17, S17, R19, S19, R20, S20, R21, S21, R22, S22, R25, S25, R26, S26, R27, S27, R30, S30, R31, S31, hBe, hBm, hmB⟩ := hM
  have i_p := h_p
  obtain ⟨p1, p2⟩ := h_p
  have v1 := hv.1
  have k1 := hk.1
  refine g_iload_n hC dX10_isSet_0 rfl ?_
  refine g_iconst hC dX10_isSet_1 ?_
  refine g_icmp_lt (tgt := 26) hC dX10_isSet_2 (by decide) ⟨by omega, by omega⟩ ⟨by omega, by omega⟩ (fun h2 => ?_) (fun h2 => ?_)
  · refine g_iconst hC dX10_isSet_26 ?_
    refine g_zret hC hI rfl (by decide +kernel) dX10_isSet_27 (Nat.le_of_ble_eq_true rfl) (Nat.le_of_ble_eq_true rfl) ⟨rfl, rfl, rfl, _, rfl, ?_⟩
    first
    | exact Or.inr ⟨rfl, setAt_far (by omega)⟩
    | (rcases q with ⟨q1, q2⟩ | ⟨q1, q2⟩
       · first | exact Or.inl ⟨rfl, q2⟩ | (exfalso; omega)
       · first | exact Or.inr ⟨rfl, q2⟩ | (exfalso; omega))
  · refine g_iload_n hC dX10_isSet_5 rfl ?_
    refine g_aload_n hC dX10_isSet_6 rfl ?_
    refine g_getI hC fdX10_93 (by assumption) dX10_isSet_7 ?_
    refine g_icmp_gt (tgt := 26) hC dX10_isSet_10 (by decide) ⟨by omega, by omega⟩ ⟨by omega, by omega⟩ (fun h10 => ?_) (fun h10 => ?_)
    · refine g_iconst hC dX10_isSet_26 ?_
      refine g_zret hC hI rfl (by decide +kernel) dX10_isSet_27 (Nat.le_of_ble_eq_true rfl) (Nat.le_of_ble_eq_true rfl) ⟨rfl, rfl, rfl, _, rfl, ?_⟩
      first
      | exact Or.inr ⟨rfl, setAt_far (by omega)⟩
      | (rcases q with ⟨q1, q2⟩ | ⟨q1, q2⟩
         · first | exact Or.inl ⟨rfl, q2⟩ | (exfalso; omega)
         · first | exact Or.inr ⟨rfl, q2⟩ | (exfalso; omega))
    · refine g_aload_n hC dX10_isSet_13 rfl ?_
      refine g_getR hC fdX10_50 (by assumption) (by assumption) dX10_isSet_14 ?_
      refine g_iload_n hC dX10_isSet_17 rfl ?_
      refine g_zald hC (by assumption) (by omega) (by omega) (by decide) dX10_isSet_18 ?_
      have q := sgone_at hv (l := l) (by omega) (by omega)
      refine g_if_ne (tgt := 26) hC dX10_isSet_19 (by decide) ⟨by omega, by omega⟩ (fun h19 => ?_) (fun h19 => ?_)
      · refine g_iconst hC dX10_isSet_26 ?_
        refine g_zret hC hI rfl (by decide +kernel) dX10_isSet_27 (Nat.le_of_ble_eq_true rfl) (Nat.le_of_ble_eq_true rfl) ⟨rfl, rfl, rfl, _, rfl, ?_⟩
        first
        | exact Or.inr ⟨rfl, setAt_far (by omega)⟩
        | (rcases q with ⟨q1, q2⟩ | ⟨q1, q2⟩
           · first | exact Or.inl ⟨rfl, q2⟩ | (exfalso; omega)
           · first | exact Or.inr ⟨rfl, q2⟩ | (exfalso; omega))
      · refine g_iconst hC dX10_isSet_22 ?_
        refine g_goto (tgt := 27) hC dX10_isSet_23 (by decide) ?_
        refine g_zret hC hI rfl (by decide +kernel) dX10_isSet_27 (Nat.le_of_ble_eq_true rfl) (Nat.le_of_ble_eq_true rfl) ⟨rfl, rfl, rfl, _, rfl, ?_⟩
        first
        | exact Or.inr ⟨rfl, setAt_far (by omega)⟩
        | (rcases q with ⟨q1, q2⟩ | ⟨q1, q2⟩
           · first | exact Or.inl ⟨rfl, q2⟩ | (exfalso; omega)
           · first | exact Or.inr ⟨rfl, q2⟩ | (exfalso; omega))
set_option maxHeartbeats 4000000 in
set_option maxRecDepth 100000 in
theorem kX10_memberOf (lc : Launch) (D : va_G) (ac : Nat → ClassId) {sh : Nat → Nat × Nat} {rf : Nat → Nat → Option Nat} {mem : Nat → Nat → Int} (m : Nat) (B : Nat → Nat) (ms : List (Option MemT)) (l n : Int) (hM : MO sh rf m B) (hv : vM m B mem ms) (hk : okM ms) (h_p : inR l) (h_q : inR n) : gMet lc D ac mX10_memberOf 0 [.ref m, .int (iI l), .int (iI n)] 0 0 sh rf mem (pP sh rf mem (fun r => r = memS ms l n)) := by
  refine gMet.mk (by decide) (by intro v hv; simp at hv; (try rcases hv with rfl | rfl | rfl) <;> rfl) (Nat.le_of_ble_eq_true rfl) (fun X hC hI => ?_)
  show gG X sh rf mem 0 0 0 [some (.ref m), some (.int (iI l)), some (.int (iI n)), none] []
  have hM9 := hM
  obtain ⟨mo, R4, S4, R5, S5, R6, S6, R7, S7, R8, S8, R9, S9, R10, S10, R11, S11, R12, S12, R13, S13, R14, S14, R15, S15, R16, S16, R17, S17, R19, S19, R20, S20, R21, S21, R22, S22, R25, S25, R26, S26, R27, S27, R30, S30, R31, S31, hBe, hBm, hmB⟩ := hM
  have i_p := h_p
  obtain ⟨p1, p2⟩ := h_p
  have i_q := h_q
  obtain ⟨q1, q2⟩ := h_q
  have v1 := hv.1
  have k1 := hk.1
  have J2 : ∀ (t j : Nat), j ≤ ms.length → ms.length < j + t → (∀ i, i < j → ¬ hnIs ms i l n) → gG X sh rf mem 0 0 2 [some (.ref m), some (.int (iI l)), some (.int (iI n)), some (.int (iI ((j : Int) + 1)))] [] := by
    intro t
    induction t with
    | zero => intro j c1 c2; omega
    | succ t ih =>
      intro j c1 c2 c3
      have ej : ((j : Int) + 1).toNat = j + 1 := by omega
      refine g_iload_n hC dX10_memberOf_2 rfl ?_
      refine g_aload_n hC dX10_memberOf_3 rfl ?_
      refine g_getI hC fdX10_90 (by assumption) dX10_memberOf_4 ?_
      refine g_icmp_gt (tgt := 47) hC dX10_memberOf_7 (by decide) ⟨by omega, by omega⟩ ⟨by omega, by omega⟩ (fun h7 => ?_) (fun h7 => ?_)
      · refine g_iconst hC dX10_memberOf_47 ?_
        refine g_iret hC hI rfl dX10_memberOf_48 (Nat.le_of_ble_eq_true rfl) (Nat.le_of_ble_eq_true rfl) ⟨rfl, rfl, rfl, _, rfl, ?_⟩
        rw [memS_zero (fun i hi => c3 i (by omega))]
        rfl
      · refine g_aload_n hC dX10_memberOf_10 rfl ?_
        refine g_getR hC fdX10_23 (by assumption) (by assumption) dX10_memberOf_11 ?_
        refine g_iload_n hC dX10_memberOf_14 rfl ?_
        refine g_zald hC (by assumption) (by omega) (by omega) (by decide) dX10_memberOf_15 ?_
        have q := gone_at hv (l := (j : Int) + 1) (by omega) (by omega)
        refine g_if_ne (tgt := 41) hC dX10_memberOf_16 (by decide) ⟨by omega, by omega⟩ (fun h16 => ?_) (fun h16 => ?_)
        · refine g_iinc hC dX10_memberOf_41 rfl ?_
          dsimp only [List.set]
          refine g_goto (tgt := 2) hC dX10_memberOf_44 (by decide) ?_
          first
          | exact J2 (ms.length + 1) 0 (Nat.zero_le _) (by omega) (fun i hi => absurd hi (Nat.not_lt_zero i))
          | (refine ih (j + 1) (by omega) (by omega) (fun i hi qq => ?_)
             by_cases e : i = j
             · subst e
               obtain ⟨x, x1, x2, x3⟩ := qq
               have w := (hv.2.1 i (by omega)).2 x x1
               have w1 : mem (B 8) ((i : Int) + 1).toNat = 0 := by rw [ej]; exact w.1
               have w2 : mem (B 5) ((i : Int) + 1).toNat = x.1 := by rw [ej]; exact w.2.1
               have w3 : mem (B 6) ((i : Int) + 1).toNat = x.2.1 := by rw [ej]; exact w.2.2.1
               omega
             · exact c3 i (by omega) qq)
        · refine g_aload_n hC dX10_memberOf_19 rfl ?_
          refine g_getR hC fdX10_13 (by assumption) (by assumption) dX10_memberOf_20 ?_
          refine g_iload_n hC dX10_memberOf_23 rfl ?_
          obtain ⟨y, y1⟩ : ∃ y, ms.getD j none = some y := by
            rcases q with ⟨q1, q2⟩ | ⟨q1, q2⟩
            · obtain ⟨y, hy⟩ := Option.ne_none_iff_exists'.mp q2
              have := (memAt_some hy).2.2
              rw [show ((j : Int) + 1 - 1).toNat = j by omega] at this
              exact ⟨y, this⟩
            · omega
          have w := (hv.2.1 j (by omega)).2 y y1
          have w2 : mem (B 5) ((j : Int) + 1).toNat = y.1 := by rw [ej]; exact w.2.1
          have w3 : mem (B 6) ((j : Int) + 1).toNat = y.2.1 := by rw [ej]; exact w.2.2.1
          have w4 := hk.2 j y y1
          refine g_iald hC (by assumption) (by omega) (by omega) (by decide) dX10_memberOf_24 ?_
          refine g_iload_n hC dX10_memberOf_25 rfl ?_
          refine g_icmp_ne (tgt := 41) hC dX10_memberOf_26 (by decide) ⟨by omega, by omega⟩ ⟨by omega, by omega⟩ (fun h26 => ?_) (fun h26 => ?_)
          · refine g_iinc hC dX10_memberOf_41 rfl ?_
            dsimp only [List.set]
            refine g_goto (tgt := 2) hC dX10_memberOf_44 (by decide) ?_
            first
            | exact J2 (ms.length + 1) 0 (Nat.zero_le _) (by omega) (fun i hi => absurd hi (Nat.not_lt_zero i))
            | (refine ih (j + 1) (by omega) (by omega) (fun i hi qq => ?_)
               by_cases e : i = j
               · subst e
                 obtain ⟨x, x1, x2, x3⟩ := qq
                 have w := (hv.2.1 i (by omega)).2 x x1
                 have w1 : mem (B 8) ((i : Int) + 1).toNat = 0 := by rw [ej]; exact w.1
                 have w2 : mem (B 5) ((i : Int) + 1).toNat = x.1 := by rw [ej]; exact w.2.1
                 have w3 : mem (B 6) ((i : Int) + 1).toNat = x.2.1 := by rw [ej]; exact w.2.2.1
                 omega
               · exact c3 i (by omega) qq)
          · refine g_aload_n hC dX10_memberOf_29 rfl ?_
            refine g_getR hC fdX10_17 (by assumption) (by assumption) dX10_memberOf_30 ?_
            refine g_iload_n hC dX10_memberOf_33 rfl ?_
            refine g_iald hC (by assumption) (by omega) (by omega) (by decide) dX10_memberOf_34 ?_
            refine g_iload_n hC dX10_memberOf_35 rfl ?_
            refine g_icmp_ne (tgt := 41) hC dX10_memberOf_36 (by decide) ⟨by omega, by omega⟩ ⟨by omega, by omega⟩ (fun h36 => ?_) (fun h36 => ?_)
            · refine g_iinc hC dX10_memberOf_41 rfl ?_
              dsimp only [List.set]
              refine g_goto (tgt := 2) hC dX10_memberOf_44 (by decide) ?_
              first
              | exact J2 (ms.length + 1) 0 (Nat.zero_le _) (by omega) (fun i hi => absurd hi (Nat.not_lt_zero i))
              | (refine ih (j + 1) (by omega) (by omega) (fun i hi qq => ?_)
                 by_cases e : i = j
                 · subst e
                   obtain ⟨x, x1, x2, x3⟩ := qq
                   have w := (hv.2.1 i (by omega)).2 x x1
                   have w1 : mem (B 8) ((i : Int) + 1).toNat = 0 := by rw [ej]; exact w.1
                   have w2 : mem (B 5) ((i : Int) + 1).toNat = x.1 := by rw [ej]; exact w.2.1
                   have w3 : mem (B 6) ((i : Int) + 1).toNat = x.2.1 := by rw [ej]; exact w.2.2.1
                   omega
                 · exact c3 i (by omega) qq)
            · refine g_iload_n hC dX10_memberOf_39 rfl ?_
              refine g_iret hC hI rfl dX10_memberOf_40 (Nat.le_of_ble_eq_true rfl) (Nat.le_of_ble_eq_true rfl) ⟨rfl, rfl, rfl, _, rfl, ?_⟩
              rw [memS_pos (k := j) ⟨y, y1, by omega, by omega⟩ c3]
              omega
  refine g_iconst hC dX10_memberOf_0 ?_
  refine g_istore_n hC 3 rfl dX10_memberOf_1 (Nat.le_of_ble_eq_true rfl) ?_
  dsimp only [List.set]
  first
  | exact J2 (ms.length + 1) 0 (Nat.zero_le _) (by omega) (fun i hi => absurd hi (Nat.not_lt_zero i))
  | (refine ih (j + 1) (by omega) (by omega) (fun i hi qq => ?_)
     by_cases e : i = j
     · subst e
       obtain ⟨x, x1, x2, x3⟩ := qq
       have w := (hv.2.1 i (by omega)).2 x x1
       have w1 : mem (B 8) ((i : Int) + 1).toNat = 0 := by rw [ej]; exact w.1
       have w2 : mem (B 5) ((i : Int) + 1).toNat = x.1 := by rw [ej]; exact w.2.1
       have w3 : mem (B 6) ((i : Int) + 1).toNat = x.2.1 := by rw [ej]; exact w.2.2.1
       omega
     · exact c3 i (by omega) qq)
set_option maxHeartbeats 4000000 in
set_option maxRecDepth 100000 in
theorem kX10_setOf (lc : Launch) (D : va_G) (ac : Nat → ClassId) {sh : Nat → Nat × Nat} {rf : Nat → Nat → Option Nat} {mem : Nat → Nat → Int} (m : Nat) (B : Nat → Nat) (ss : List (Option SetT)) (n : Int) (hM : MO sh rf m B) (hv : vS m B mem ss) (hk : okS ss) (h_q : inR n) : gMet lc D ac mX10_setOf 0 [.ref m, .int (iI n)] 0 0 sh rf mem (pP sh rf mem (fun r => r = numS ss n)) := by
  refine gMet.mk (by decide) (by intro v hv; simp at hv; (try rcases hv with rfl | rfl) <;> rfl) (Nat.le_of_ble_eq_true rfl) (fun X hC hI => ?_)
  show gG X sh rf mem 0 0 0 [some (.ref m), some (.int (iI n)), none] []
  have hM9 := hM
  obtain ⟨mo, R4, S4, R5, S5, R6, S6, R7, S7, R8, S8, R9, S9, R10, S10, R11, S11, R12, S12, R13, S13, R14, S14, R15, S15, R16, S16, R17, S17, R19, S19, R20, S20, R21, S21, R22, S22, R25, S25, R26, S26, R27, S27, R30, S30, R31, S31, hBe, hBm, hmB⟩ := hM
  have i_q := h_q
  obtain ⟨q1, q2⟩ := h_q
  have v1 := hv.1
  have k1 := hk.1
  have J2 : ∀ (t j : Nat), j ≤ ss.length → ss.length < j + t → (∀ i, i < j → ¬ nmIs ss i n) → gG X sh rf mem 0 0 2 [some (.ref m), some (.int (iI n)), some (.int (iI ((j : Int) + 1)))] [] := by
    intro t
    induction t with
    | zero => intro j c1 c2; omega
    | succ t ih =>
      intro j c1 c2 c3
      have ej : ((j : Int) + 1).toNat = j + 1 := by omega
      refine g_iload_n hC dX10_setOf_2 rfl ?_
      refine g_aload_n hC dX10_setOf_3 rfl ?_
      refine g_getI hC fdX10_93 (by assumption) dX10_setOf_4 ?_
      refine g_icmp_gt (tgt := 37) hC dX10_setOf_7 (by decide) ⟨by omega, by omega⟩ ⟨by omega, by omega⟩ (fun h7 => ?_) (fun h7 => ?_)
      · refine g_iconst hC dX10_setOf_37 ?_
        refine g_iret hC hI rfl dX10_setOf_38 (Nat.le_of_ble_eq_true rfl) (Nat.le_of_ble_eq_true rfl) ⟨rfl, rfl, rfl, _, rfl, ?_⟩
        rw [numS_zero (fun i hi => c3 i (by omega))]
        rfl
      · refine g_aload_n hC dX10_setOf_10 rfl ?_
        refine g_getR hC fdX10_50 (by assumption) (by assumption) dX10_setOf_11 ?_
        refine g_iload_n hC dX10_setOf_14 rfl ?_
        refine g_zald hC (by assumption) (by omega) (by omega) (by decide) dX10_setOf_15 ?_
        have q := sgone_at hv (l := (j : Int) + 1) (by omega) (by omega)
        refine g_if_ne (tgt := 31) hC dX10_setOf_16 (by decide) ⟨by omega, by omega⟩ (fun h16 => ?_) (fun h16 => ?_)
        · refine g_iinc hC dX10_setOf_31 rfl ?_
          dsimp only [List.set]
          refine g_goto (tgt := 2) hC dX10_setOf_34 (by decide) ?_
          first
          | exact J2 (ss.length + 1) 0 (Nat.zero_le _) (by omega) (fun i hi => absurd hi (Nat.not_lt_zero i))
          | (refine ih (j + 1) (by omega) (by omega) (fun i hi qq => ?_)
             by_cases e : i = j
             · subst e
               obtain ⟨x, x1, x2⟩ := qq
               have w := (hv.2.1 i (by omega)).2 x x1
               have w1 : mem (B 17) ((i : Int) + 1).toNat = 0 := by rw [ej]; exact w.1
               have w2 : mem (B 12) ((i : Int) + 1).toNat = x.1 := by rw [ej]; exact w.2.1
               omega
             · exact c3 i (by omega) qq)
        · refine g_aload_n hC dX10_setOf_19 rfl ?_
          refine g_getR hC fdX10_35 (by assumption) (by assumption) dX10_setOf_20 ?_
          refine g_iload_n hC dX10_setOf_23 rfl ?_
          obtain ⟨y, y1⟩ : ∃ y, ss.getD j none = some y := by
            rcases q with ⟨q1, q2⟩ | ⟨q1, q2⟩
            · obtain ⟨y, hy⟩ := Option.ne_none_iff_exists'.mp q2
              have := (setAt_some hy).2.2
              rw [show ((j : Int) + 1 - 1).toNat = j by omega] at this
              exact ⟨y, this⟩
            · omega
          have w := (hv.2.1 j (by omega)).2 y y1
          have w2 : mem (B 12) ((j : Int) + 1).toNat = y.1 := by rw [ej]; exact w.2.1
          have w4 := hk.2 j y y1
          refine g_iald hC (by assumption) (by omega) (by omega) (by decide) dX10_setOf_24 ?_
          refine g_iload_n hC dX10_setOf_25 rfl ?_
          refine g_icmp_ne (tgt := 31) hC dX10_setOf_26 (by decide) ⟨by omega, by omega⟩ ⟨by omega, by omega⟩ (fun h26 => ?_) (fun h26 => ?_)
          · refine g_iinc hC dX10_setOf_31 rfl ?_
            dsimp only [List.set]
            refine g_goto (tgt := 2) hC dX10_setOf_34 (by decide) ?_
            first
            | exact J2 (ss.length + 1) 0 (Nat.zero_le _) (by omega) (fun i hi => absurd hi (Nat.not_lt_zero i))
            | (refine ih (j + 1) (by omega) (by omega) (fun i hi qq => ?_)
               by_cases e : i = j
               · subst e
                 obtain ⟨x, x1, x2⟩ := qq
                 have w := (hv.2.1 i (by omega)).2 x x1
                 have w1 : mem (B 17) ((i : Int) + 1).toNat = 0 := by rw [ej]; exact w.1
                 have w2 : mem (B 12) ((i : Int) + 1).toNat = x.1 := by rw [ej]; exact w.2.1
                 omega
               · exact c3 i (by omega) qq)
          · refine g_iload_n hC dX10_setOf_29 rfl ?_
            refine g_iret hC hI rfl dX10_setOf_30 (Nat.le_of_ble_eq_true rfl) (Nat.le_of_ble_eq_true rfl) ⟨rfl, rfl, rfl, _, rfl, ?_⟩
            rw [numS_pos (k := j) ⟨y, y1, by omega⟩ c3]
            omega
  refine g_iconst hC dX10_setOf_0 ?_
  refine g_istore_n hC 2 rfl dX10_setOf_1 (Nat.le_of_ble_eq_true rfl) ?_
  dsimp only [List.set]
  first
  | exact J2 (ss.length + 1) 0 (Nat.zero_le _) (by omega) (fun i hi => absurd hi (Nat.not_lt_zero i))
  | (refine ih (j + 1) (by omega) (by omega) (fun i hi qq => ?_)
     by_cases e : i = j
     · subst e
       obtain ⟨x, x1, x2⟩ := qq
       have w := (hv.2.1 i (by omega)).2 x x1
       have w1 : mem (B 17) ((i : Int) + 1).toNat = 0 := by rw [ej]; exact w.1
       have w2 : mem (B 12) ((i : Int) + 1).toNat = x.1 := by rw [ej]; exact w.2.1
       omega
     · exact c3 i (by omega) qq)
set_option maxHeartbeats 4000000 in
set_option maxRecDepth 100000 in
theorem kX10_moveLine (lc : Launch) (D : va_G) (ac : Nat → ClassId) {sh : Nat → Nat × Nat} {rf : Nat → Nat → Option Nat} {mem : Nat → Nat → Int} (m : Nat) (B : Nat → Nat) (f t : Nat) (hM : MO sh rf m B) (hf : f < 2430 ∧ t < 2430 ∧ f ≠ t) : gMet lc D ac mX10_moveLine 0 [.ref m, .int (iI f), .int (iI t)] 0 0 sh rf mem (pV sh rf (fun mem1 => RLn B mem mem1 (fun a => if a = t then f else a) ∧ chF m B mem mem1 [9, 10, 11])) := by
  refine gMet.mk (by decide) (by intro v hv; simp at hv; (try rcases hv with rfl | rfl | rfl) <;> rfl) (Nat.le_of_ble_eq_true rfl) (fun X hC hI => ?_)
  show gG X sh rf mem 0 0 0 [some (.ref m), some (.int (iI f)), some (.int (iI t)), none] []
  have hM9 := hM
  obtain ⟨mo, R4, S4, R5, S5, R6, S6, R7, S7, R8, S8, R9, S9, R10, S10, R11, S11, R12, S12, R13, S13, R14, S14, R15, S15, R16, S16, R17, S17, R19, S19, R20, S20, R21, S21, R22, S22, R25, S25, R26, S26, R27, S27, R30, S30, R31, S31, hBe, hBm, hmB⟩ := hM
  have J26 : ∀ (r k : Nat), k ≤ 10 → 10 < k + r → gG X sh rf (mvk B mem f t k) 0 0 26 [some (.ref m), some (.int (iI f)), some (.int (iI t)), some (.int (iI k))] [] := by
    intro r
    induction r with
    | zero => intro k c1 c2; omega
    | succ r ih =>
      intro k c1 c2
      refine g_iload_n hC dX10_moveLine_26 rfl ?_
      refine g_bipush hC dX10_moveLine_27 (by decide +kernel) ?_
      refine g_icmp_ge (tgt := 60) hC dX10_moveLine_29 (by decide) ⟨by omega, by omega⟩ ⟨by omega, by omega⟩ (fun h29 => ?_) (fun h29 => ?_)
      · refine g_vret hC hI rfl dX10_moveLine_60 (Nat.le_of_ble_eq_true rfl) (Nat.le_of_ble_eq_true rfl) ⟨rfl, rfl, rfl, ?_⟩
        have e : k = 10 := by omega
        subst e
        exact mvk_RL hBe hmB
      · refine g_aload_n hC dX10_moveLine_32 rfl ?_
        refine g_getR hC fdX10_32 (by assumption) (by assumption) dX10_moveLine_33 ?_
        refine g_bipush hC dX10_moveLine_36 (by decide +kernel) ?_
        refine g_iload_n hC dX10_moveLine_38 rfl ?_
        refine g_imul hC dX10_moveLine_39 ?_
        refine g_iload_n hC dX10_moveLine_40 rfl ?_
        refine g_iadd hC dX10_moveLine_41 ?_
        refine g_aload_n hC dX10_moveLine_42 rfl ?_
        refine g_getR hC fdX10_32 (by assumption) (by assumption) dX10_moveLine_43 ?_
        refine g_bipush hC dX10_moveLine_46 (by decide +kernel) ?_
        refine g_iload_n hC dX10_moveLine_48 rfl ?_
        refine g_imul hC dX10_moveLine_49 ?_
        refine g_iload_n hC dX10_moveLine_50 rfl ?_
        refine g_iadd hC dX10_moveLine_51 ?_
        refine g_iald hC (by assumption) (by omega) (by omega) (by decide) dX10_moveLine_52 ?_
        refine g_iast hC (by assumption) (by omega) (by omega) (by decide) dX10_moveLine_53 ?_
        refine g_iinc hC dX10_moveLine_54 rfl ?_
        dsimp only [List.set]
        refine g_goto (tgt := 26) hC dX10_moveLine_57 (by decide) ?_
        first
        | (have e := mvk_0 (mem := mem) (f := f) (t := t) hBe
           have := J26 11 0 (by omega) (by omega)
           rw [← e] at this
           exact this)
        | (have := ih (k + 1) (by omega) (by omega)
           rw [← mvk_s hBe hf.2.2 (by omega)] at this
           have e1 : ((10 : Int) * t + k).toNat = 10 * t + k := by omega
           have e2 : ((10 : Int) * f + k).toNat = 10 * f + k := by omega
           rw [e1, e2]
           exact this)
  refine g_aload_n hC dX10_moveLine_0 rfl ?_
  refine g_getR hC fdX10_26 (by assumption) (by assumption) dX10_moveLine_1 ?_
  refine g_iload_n hC dX10_moveLine_4 rfl ?_
  refine g_aload_n hC dX10_moveLine_5 rfl ?_
  refine g_getR hC fdX10_26 (by assumption) (by assumption) dX10_moveLine_6 ?_
  refine g_iload_n hC dX10_moveLine_9 rfl ?_
  refine g_iald hC (by assumption) (by omega) (by omega) (by decide) dX10_moveLine_10 ?_
  refine g_iast hC (by assumption) (by omega) (by omega) (by decide) dX10_moveLine_11 ?_
  refine g_aload_n hC dX10_moveLine_12 rfl ?_
  refine g_getR hC fdX10_29 (by assumption) (by assumption) dX10_moveLine_13 ?_
  refine g_iload_n hC dX10_moveLine_16 rfl ?_
  refine g_aload_n hC dX10_moveLine_17 rfl ?_
  refine g_getR hC fdX10_29 (by assumption) (by assumption) dX10_moveLine_18 ?_
  refine g_iload_n hC dX10_moveLine_21 rfl ?_
  refine g_iald hC (by assumption) (by omega) (by omega) (by decide) dX10_moveLine_22 ?_
  refine g_iast hC (by assumption) (by omega) (by omega) (by decide) dX10_moveLine_23 ?_
  refine g_iconst hC dX10_moveLine_24 ?_
  refine g_istore_n hC 3 rfl dX10_moveLine_25 (Nat.le_of_ble_eq_true rfl) ?_
  dsimp only [List.set]
  first
  | (have e := mvk_0 (mem := mem) (f := f) (t := t) hBe
     have := J26 11 0 (by omega) (by omega)
     rw [← e] at this
     exact this)
  | (have := ih (k + 1) (by omega) (by omega)
     rw [← mvk_s hBe hf.2.2 (by omega)] at this
     have e1 : ((10 : Int) * t + k).toNat = 10 * t + k := by omega
     have e2 : ((10 : Int) * f + k).toNat = 10 * f + k := by omega
     rw [e1, e2]
     exact this)
