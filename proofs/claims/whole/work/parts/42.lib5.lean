theorem cnt_t {p : Int → Bool} {k : Nat} {n : Int} (h : p n = true) : cnt p (k + 1) n = 1 + cnt p k (n + 1) := by rw [cnt, if_pos h]
theorem cnt_f {p : Int → Bool} {k : Nat} {n : Int} (h : p n = false) : cnt p (k + 1) n = cnt p k (n + 1) := by rw [cnt, if_neg (by rw [h]; simp)]; omega
theorem cnt_le {p : Int → Bool} : ∀ (k : Nat) (n : Int), cnt p k n ≤ k
  | 0, _ => Nat.le_refl _
  | k + 1, n => by
    have := cnt_le (p := p) k (n + 1)
    unfold cnt
    split <;> omega
def nK (n : Int) : Nat := if n = -1 then 100 else 1
def nF (n : Int) : Int := if n = -1 then 0 else n
/-- the code of a copy of names -/
def cpC0 (rp : List Int) (ms : List (Option MemT)) (f t n w : Int) : Int :=
  if cnt (srcB ms f) (nK n) (nF n) = 0 ∨ (w ≠ -1 ∧ 1 < cnt (srcB ms f) (nK n) (nF n)) then 8
  else if 80 < ms.length + cnt (frsB ms f t w) (nK n) (nF n) then 12 else if 0 < cnt (lftB rp ms f t w) (nK n) (nF n) then 4 else 0
def nmN (n : Int) : Prop := n = -1 ∨ (0 ≤ n ∧ n < 100)
def lbN (rp : List Int) (l : Int) : Prop := 1 ≤ l ∧ l ≤ rp.length
def cpC (rp : List Int) (ms : List (Option MemT)) (f t n w : Int) : Int :=
  if ¬ ((1 ≤ f ∧ f ≤ rp.length) ∧ 1 ≤ t ∧ t ≤ rp.length) then -2 else if ¬ ((n = -1 ∨ (0 ≤ n ∧ n < 100)) ∧ (w = -1 ∨ (0 ≤ w ∧ w < 100))) then -4 else cpC0 rp ms f t n w
def mvC (rp : List Int) (ms : List (Option MemT)) (f t n w : Int) : Int := if (1 ≤ f ∧ f ≤ rp.length) ∧ (1 ≤ t ∧ t ≤ rp.length) ∧ n = -1 then -4 else cpC rp ms f t n w
theorem mvS_same {rp : List Int} {ms : List (Option MemT)} {f t n w : Int} (h1 : f = t) (h2 : n = tn w n) : mvS rp ms f t n w = ms := by rw [mvS, if_pos ⟨h1, h2⟩]
theorem mvS_else {rp : List Int} {ms : List (Option MemT)} {f t n w : Int} (h : ¬ (f = t ∧ n = tn w n)) : mvS rp ms f t n w = drp (cp1 rp ms f n t (tn w n)) f n := by unfold tn at h ⊢; rw [mvS, if_neg h]
set_option maxHeartbeats 4000000 in
set_option maxRecDepth 100000 in
theorem kX3_moveMember (lc : Launch) (D : va_G) (ac : Nat → ClassId) {sh : Nat → Nat × Nat} {rf : Nat → Nat → Option Nat} {mem : Nat → Nat → Int} (a a0 a1 a2 : Nat) (la l0 l1 l2 : Nat → Nat) (rp : List Int) (ms : List (Option MemT)) (f t n w : Int) (hO : LbO sh rf a a0 a1 a2) (hv : LbV sh rf mem a a0 a1 a2 la l0 l1 l2 rp ms) (h_p : inR f) (hto : 1 ≤ t ∧ t ≤ rp.length) (hn : 0 ≤ n ∧ n < 100) (hw : w = -1 ∨ (0 ≤ w ∧ w < 100)) (hroom : memS ms f n ≠ 0 → memS ms t (tn w n) = 0 → ms.length < 80) : gMet lc D ac mX3_moveMember 4 [.ref a, .int (iI f), .int (iI t), .int (iI n), .int (iI w)] (4 * ((mvS rp ms f t n w).length - ms.length)) (364 * ((mvS rp ms f t n w).length - ms.length)) sh rf mem (pU (fun sh1 rf1 mem1 => ∃ ka k0 k1 k2, LbN sh rf mem a a0 a1 a2 la l0 l1 l2 rp ms sh1 rf1 mem1 (mvS rp ms f t n w) ka k0 k1 k2)) := by
  refine gMet.mk (by decide) (by intro v hv; simp at hv; (try rcases hv with rfl | rfl | rfl | rfl | rfl) <;> rfl) (Nat.le_of_ble_eq_true rfl) (fun X hC hI => ?_)
  show gG X sh rf mem 0 0 0 [some (.ref a), some (.int (iI f)), some (.int (iI t)), some (.int (iI n)), some (.int (iI w)), none] []
  have hO9 := hO
  have hv9 := hv
  obtain ⟨n1, n2, n3, n4, n5, n6⟩ := hO.ne
  obtain ⟨ho, hr0, hr1, hr2, hs0, hs1, hs2⟩ := hO
  obtain ⟨v1, v2, v3, v4, v5, v6, v7, v8, v9⟩ := hv
  have i_p := h_p
  obtain ⟨p1, p2⟩ := h_p
  refine g_iload hC dX3_moveMember_0 rfl ?_
  refine g_iconst hC dX3_moveMember_2 ?_
  refine g_icmp_ne (tgt := 10) hC dX3_moveMember_3 (by decide) ⟨by omega, by omega⟩ ⟨by omega, by omega⟩ (fun h3 => ?_) (fun h3 => ?_)
  · refine g_iload hC dX3_moveMember_10 rfl ?_
    first | have e5 : tn w n = n := by rw [tn, if_pos (by omega)] | have e5 : tn w n = w := by rw [tn, if_neg (by omega)]
    refine g_istore hC dX3_moveMember_12 (Nat.le_of_ble_eq_true rfl) ?_
    dsimp only [List.set]
    refine g_iload_n hC dX3_moveMember_14 rfl ?_
    refine g_iload_n hC dX3_moveMember_15 rfl ?_
    refine g_icmp_ne (tgt := 26) hC dX3_moveMember_16 (by decide) ⟨by omega, by omega⟩ ⟨by omega, by omega⟩ (fun h16 => ?_) (fun h16 => ?_)
    · have e6 := mvS_else (rp := rp) (ms := ms) (f := f) (t := t) (n := n) (w := w) (by omega)
      rw [e5] at e6 hroom
      have e7 := congrArg List.length e6
      rw [drp_len] at e7
      have e8 := cp1_len (rp := rp) (ms := ms) f n t (tn w n)
      rw [e5] at e8
      refine g_aload_n hC dX3_moveMember_26 rfl ?_
      refine g_iload_n hC dX3_moveMember_27 rfl ?_
      refine g_iload_n hC dX3_moveMember_28 rfl ?_
      refine g_iload_n hC dX3_moveMember_29 rfl ?_
      refine g_iload hC dX3_moveMember_30 rfl ?_
      refine g_VU hC (kX3_copyMember (gl X) (gD X) (gac X) a a0 a1 a2 la l0 l1 l2 rp ms f n t _ hO9 hv9 i_p ⟨by omega, by omega⟩ hto (by omega) hroom) cvX3_copyMember lkX3_61 (by assumption) rfl rfl (Nat.le_of_ble_eq_true rfl) (hI.fit (Nat.le_of_ble_eq_true rfl) (by first | exact Nat.zero_le _ | omega) (by first | exact Nat.zero_le _ | omega)) dX3_moveMember_32 (fun sh32 rf32 mem32 hx32 => ?_)
      obtain ⟨ka, k0, k1, k2, hN⟩ := hx32
      have ho32 := hN.1.1
      refine g_aload_n hC dX3_moveMember_35 rfl ?_
      refine g_iload_n hC dX3_moveMember_36 rfl ?_
      refine g_iload_n hC dX3_moveMember_37 rfl ?_
      refine g_VU hC (kX3_dropMember (gl X) (gD X) (gac X) a a0 a1 a2 ka k0 k1 k2 rp _ f n hN.1 hN.2.1 i_p ⟨by omega, by omega⟩) cvX3_dropMember lkX3_65 (by assumption) rfl rfl (Nat.le_of_ble_eq_true rfl) (hI.fit (Nat.le_of_ble_eq_true rfl) (by first | exact Nat.zero_le _ | omega) (by first | exact Nat.zero_le _ | omega)) dX3_moveMember_38 (fun sh38 rf38 mem38 hx38 => ?_)
      refine g_vret hC hI rfl dX3_moveMember_41 (by first | exact Nat.zero_le _ | omega) (by first | exact Nat.zero_le _ | omega) ⟨rfl, ?_⟩
      rw [e6]
      exact ⟨ka, k0, k1, k2, hN.trans hx38.2⟩
    · refine g_iload_n hC dX3_moveMember_19 rfl ?_
      refine g_iload hC dX3_moveMember_20 rfl ?_
      refine g_icmp_ne (tgt := 26) hC dX3_moveMember_22 (by decide) ⟨by omega, by omega⟩ ⟨by omega, by omega⟩ (fun h22 => ?_) (fun h22 => ?_)
      · have e6 := mvS_else (rp := rp) (ms := ms) (f := f) (t := t) (n := n) (w := w) (by omega)
        rw [e5] at e6 hroom
        have e7 := congrArg List.length e6
        rw [drp_len] at e7
        have e8 := cp1_len (rp := rp) (ms := ms) f n t (tn w n)
        rw [e5] at e8
        refine g_aload_n hC dX3_moveMember_26 rfl ?_
        refine g_iload_n hC dX3_moveMember_27 rfl ?_
        refine g_iload_n hC dX3_moveMember_28 rfl ?_
        refine g_iload_n hC dX3_moveMember_29 rfl ?_
        refine g_iload hC dX3_moveMember_30 rfl ?_
        refine g_VU hC (kX3_copyMember (gl X) (gD X) (gac X) a a0 a1 a2 la l0 l1 l2 rp ms f n t _ hO9 hv9 i_p ⟨by omega, by omega⟩ hto (by omega) hroom) cvX3_copyMember lkX3_61 (by assumption) rfl rfl (Nat.le_of_ble_eq_true rfl) (hI.fit (Nat.le_of_ble_eq_true rfl) (by first | exact Nat.zero_le _ | omega) (by first | exact Nat.zero_le _ | omega)) dX3_moveMember_32 (fun sh32 rf32 mem32 hx32 => ?_)
        obtain ⟨ka, k0, k1, k2, hN⟩ := hx32
        have ho32 := hN.1.1
        refine g_aload_n hC dX3_moveMember_35 rfl ?_
        refine g_iload_n hC dX3_moveMember_36 rfl ?_
        refine g_iload_n hC dX3_moveMember_37 rfl ?_
        refine g_VU hC (kX3_dropMember (gl X) (gD X) (gac X) a a0 a1 a2 ka k0 k1 k2 rp _ f n hN.1 hN.2.1 i_p ⟨by omega, by omega⟩) cvX3_dropMember lkX3_65 (by assumption) rfl rfl (Nat.le_of_ble_eq_true rfl) (hI.fit (Nat.le_of_ble_eq_true rfl) (by first | exact Nat.zero_le _ | omega) (by first | exact Nat.zero_le _ | omega)) dX3_moveMember_38 (fun sh38 rf38 mem38 hx38 => ?_)
        refine g_vret hC hI rfl dX3_moveMember_41 (by first | exact Nat.zero_le _ | omega) (by first | exact Nat.zero_le _ | omega) ⟨rfl, ?_⟩
        rw [e6]
        exact ⟨ka, k0, k1, k2, hN.trans hx38.2⟩
      · refine g_vret hC hI rfl dX3_moveMember_25 (by first | exact Nat.zero_le _ | omega) (by first | exact Nat.zero_le _ | omega) ⟨rfl, ?_⟩
        rw [mvS_same (by omega) (by omega)]
        exact ⟨la, l0, l1, l2, LbN.rf0 hO9 hv9⟩
  · refine g_iload_n hC dX3_moveMember_6 rfl ?_
    refine g_goto (tgt := 12) hC dX3_moveMember_7 (by decide) ?_
    first | have e5 : tn w n = n := by rw [tn, if_pos (by omega)] | have e5 : tn w n = w := by rw [tn, if_neg (by omega)]
    refine g_istore hC dX3_moveMember_12 (Nat.le_of_ble_eq_true rfl) ?_
    dsimp only [List.set]
    refine g_iload_n hC dX3_moveMember_14 rfl ?_
    refine g_iload_n hC dX3_moveMember_15 rfl ?_
    refine g_icmp_ne (tgt := 26) hC dX3_moveMember_16 (by decide) ⟨by omega, by omega⟩ ⟨by omega, by omega⟩ (fun h16 => ?_) (fun h16 => ?_)
    · have e6 := mvS_else (rp := rp) (ms := ms) (f := f) (t := t) (n := n) (w := w) (by omega)
      rw [e5] at e6 hroom
      have e7 := congrArg List.length e6
      rw [drp_len] at e7
      have e8 := cp1_len (rp := rp) (ms := ms) f n t (tn w n)
      rw [e5] at e8
      refine g_aload_n hC dX3_moveMember_26 rfl ?_
      refine g_iload_n hC dX3_moveMember_27 rfl ?_
      refine g_iload_n hC dX3_moveMember_28 rfl ?_
      refine g_iload_n hC dX3_moveMember_29 rfl ?_
      refine g_iload hC dX3_moveMember_30 rfl ?_
      refine g_VU hC (kX3_copyMember (gl X) (gD X) (gac X) a a0 a1 a2 la l0 l1 l2 rp ms f n t _ hO9 hv9 i_p ⟨by omega, by omega⟩ hto (by omega) hroom) cvX3_copyMember lkX3_61 (by assumption) rfl rfl (Nat.le_of_ble_eq_true rfl) (hI.fit (Nat.le_of_ble_eq_true rfl) (by first | exact Nat.zero_le _ | omega) (by first | exact Nat.zero_le _ | omega)) dX3_moveMember_32 (fun sh32 rf32 mem32 hx32 => ?_)
      obtain ⟨ka, k0, k1, k2, hN⟩ := hx32
      have ho32 := hN.1.1
      refine g_aload_n hC dX3_moveMember_35 rfl ?_
      refine g_iload_n hC dX3_moveMember_36 rfl ?_
      refine g_iload_n hC dX3_moveMember_37 rfl ?_
      refine g_VU hC (kX3_dropMember (gl X) (gD X) (gac X) a a0 a1 a2 ka k0 k1 k2 rp _ f n hN.1 hN.2.1 i_p ⟨by omega, by omega⟩) cvX3_dropMember lkX3_65 (by assumption) rfl rfl (Nat.le_of_ble_eq_true rfl) (hI.fit (Nat.le_of_ble_eq_true rfl) (by first | exact Nat.zero_le _ | omega) (by first | exact Nat.zero_le _ | omega)) dX3_moveMember_38 (fun sh38 rf38 mem38 hx38 => ?_)
      refine g_vret hC hI rfl dX3_moveMember_41 (by first | exact Nat.zero_le _ | omega) (by first | exact Nat.zero_le _ | omega) ⟨rfl, ?_⟩
      rw [e6]
      exact ⟨ka, k0, k1, k2, hN.trans hx38.2⟩
    · refine g_iload_n hC dX3_moveMember_19 rfl ?_
      refine g_iload hC dX3_moveMember_20 rfl ?_
      refine g_icmp_ne (tgt := 26) hC dX3_moveMember_22 (by decide) ⟨by omega, by omega⟩ ⟨by omega, by omega⟩ (fun h22 => ?_) (fun h22 => ?_)
      · have e6 := mvS_else (rp := rp) (ms := ms) (f := f) (t := t) (n := n) (w := w) (by omega)
        rw [e5] at e6 hroom
        have e7 := congrArg List.length e6
        rw [drp_len] at e7
        have e8 := cp1_len (rp := rp) (ms := ms) f n t (tn w n)
        rw [e5] at e8
        refine g_aload_n hC dX3_moveMember_26 rfl ?_
        refine g_iload_n hC dX3_moveMember_27 rfl ?_
        refine g_iload_n hC dX3_moveMember_28 rfl ?_
        refine g_iload_n hC dX3_moveMember_29 rfl ?_
        refine g_iload hC dX3_moveMember_30 rfl ?_
        refine g_VU hC (kX3_copyMember (gl X) (gD X) (gac X) a a0 a1 a2 la l0 l1 l2 rp ms f n t _ hO9 hv9 i_p ⟨by omega, by omega⟩ hto (by omega) hroom) cvX3_copyMember lkX3_61 (by assumption) rfl rfl (Nat.le_of_ble_eq_true rfl) (hI.fit (Nat.le_of_ble_eq_true rfl) (by first | exact Nat.zero_le _ | omega) (by first | exact Nat.zero_le _ | omega)) dX3_moveMember_32 (fun sh32 rf32 mem32 hx32 => ?_)
        obtain ⟨ka, k0, k1, k2, hN⟩ := hx32
        have ho32 := hN.1.1
        refine g_aload_n hC dX3_moveMember_35 rfl ?_
        refine g_iload_n hC dX3_moveMember_36 rfl ?_
        refine g_iload_n hC dX3_moveMember_37 rfl ?_
        refine g_VU hC (kX3_dropMember (gl X) (gD X) (gac X) a a0 a1 a2 ka k0 k1 k2 rp _ f n hN.1 hN.2.1 i_p ⟨by omega, by omega⟩) cvX3_dropMember lkX3_65 (by assumption) rfl rfl (Nat.le_of_ble_eq_true rfl) (hI.fit (Nat.le_of_ble_eq_true rfl) (by first | exact Nat.zero_le _ | omega) (by first | exact Nat.zero_le _ | omega)) dX3_moveMember_38 (fun sh38 rf38 mem38 hx38 => ?_)
        refine g_vret hC hI rfl dX3_moveMember_41 (by first | exact Nat.zero_le _ | omega) (by first | exact Nat.zero_le _ | omega) ⟨rfl, ?_⟩
        rw [e6]
        exact ⟨ka, k0, k1, k2, hN.trans hx38.2⟩
      · refine g_vret hC hI rfl dX3_moveMember_25 (by first | exact Nat.zero_le _ | omega) (by first | exact Nat.zero_le _ | omega) ⟨rfl, ?_⟩
        rw [mvS_same (by omega) (by omega)]
        exact ⟨la, l0, l1, l2, LbN.rf0 hO9 hv9⟩
set_option maxHeartbeats 4000000 in
set_option maxRecDepth 100000 in
theorem kX3_copyCodeOfNames (lc : Launch) (D : va_G) (ac : Nat → ClassId) {sh : Nat → Nat × Nat} {rf : Nat → Nat → Option Nat} {mem : Nat → Nat → Int} (a a0 a1 a2 : Nat) (la l0 l1 l2 : Nat → Nat) (rp : List Int) (ms : List (Option MemT)) (f t n w : Int) (hO : LbO sh rf a a0 a1 a2) (hv : LbV sh rf mem a a0 a1 a2 la l0 l1 l2 rp ms) (h_p : inR f) (h_q : inR t) (hn : n = -1 ∨ (0 ≤ n ∧ n < 100)) (hw : w = -1 ∨ (0 ≤ w ∧ w < 100)) : gMet lc D ac mX3_copyCodeOfNames 2 [.ref a, .int (iI f), .int (iI t), .int (iI n), .int (iI w)] 0 0 sh rf mem (pP sh rf mem (fun r => r = cpC0 rp ms f t n w)) := by
  refine gMet.mk (by decide) (by intro v hv; simp at hv; (try rcases hv with rfl | rfl | rfl | rfl | rfl) <;> rfl) (Nat.le_of_ble_eq_true rfl) (fun X hC hI => ?_)
  show gG X sh rf mem 0 0 0 [some (.ref a), some (.int (iI f)), some (.int (iI t)), some (.int (iI n)), some (.int (iI w)), none, none, none, none, none, none, none] []
  have hO9 := hO
  have hv9 := hv
  obtain ⟨n1, n2, n3, n4, n5, n6⟩ := hO.ne
  obtain ⟨ho, hr0, hr1, hr2, hs0, hs1, hs2⟩ := hO
  obtain ⟨v1, v2, v3, v4, v5, v6, v7, v8, v9⟩ := hv
  have i_p := h_p
  obtain ⟨p1, p2⟩ := h_p
  have i_q := h_q
  obtain ⟨q1, q2⟩ := h_q
  obtain ⟨K, eK⟩ : ∃ K : Nat, K = nK n := ⟨_, rfl⟩
  obtain ⟨F, eF⟩ : ∃ F : Int, F = nF n := ⟨_, rfl⟩
  have hF : 0 ≤ F ∧ F + K ≤ 100 ∧ (n = -1 → F = 0 ∧ K = 100) ∧ (n ≠ -1 → F = n ∧ K = 1) := by
    unfold nK at eK
    unfold nF at eF
    by_cases e : n = -1
    · rw [if_pos e] at eK eF; subst eK eF; exact ⟨by omega, by omega, fun _ => ⟨rfl, rfl⟩, fun h => absurd e h⟩
    · rw [if_neg e] at eK eF; subst eK eF; exact ⟨by omega, by omega, fun h => absurd h e, fun _ => ⟨rfl, rfl⟩⟩
  have L1 := cnt_le (p := srcB ms f) K F
  have L2 := cnt_le (p := frsB ms f t w) K F
  have L3 := cnt_le (p := lftB rp ms f t w) K F
  have spec : cpC0 rp ms f t n w = if cnt (srcB ms f) K F = 0 ∨ (w ≠ -1 ∧ 1 < cnt (srcB ms f) K F) then 8 else if 80 < ms.length + cnt (frsB ms f t w) K F then 12 else if 0 < cnt (lftB rp ms f t w) K F then 4 else 0 := by rw [eK, eF]; rfl
  have J103 : ∀ (own : Int) o10 o11, gG X sh rf mem 0 0 103 [some (.ref a), some (.int (iI f)), some (.int (iI t)), some (.int (iI n)), some (.int (iI w)), some (.int (iI (cnt (srcB ms f) K F))), some (.int (iI (cnt (frsB ms f t w) K F))), some (.int (iI (cnt (lftB rp ms f t w) K F))), some (.int (iI (F + K - 1))), some (.int (iI own)), o10, o11] [] := by
    intro own o10 o11
    refine g_iload hC dX3_copyCodeOfNames_103 rfl ?_
    refine g_if_eq (tgt := 120) hC dX3_copyCodeOfNames_105 (by decide) ⟨by omega, by omega⟩ (fun h105 => ?_) (fun h105 => ?_)
    · refine g_bipush hC dX3_copyCodeOfNames_120 (by decide +kernel) ?_
      refine g_iret hC hI rfl dX3_copyCodeOfNames_122 (Nat.le_of_ble_eq_true rfl) (Nat.le_of_ble_eq_true rfl) ⟨rfl, rfl, rfl, _, rfl, ?_⟩
      rw [spec, if_pos (by omega)]
    · refine g_iload hC dX3_copyCodeOfNames_108 rfl ?_
      refine g_iconst hC dX3_copyCodeOfNames_110 ?_
      refine g_icmp_eq (tgt := 123) hC dX3_copyCodeOfNames_111 (by decide) ⟨by omega, by omega⟩ ⟨by omega, by omega⟩ (fun h111 => ?_) (fun h111 => ?_)
      · refine g_aload_n hC dX3_copyCodeOfNames_123 rfl ?_
        refine g_getI hC fdX3_29 (by assumption) dX3_copyCodeOfNames_124 ?_
        refine g_iload hC dX3_copyCodeOfNames_127 rfl ?_
        refine g_iadd hC dX3_copyCodeOfNames_129 ?_
        refine g_bipush hC dX3_copyCodeOfNames_130 (by decide +kernel) ?_
        refine g_icmp_le (tgt := 138) hC dX3_copyCodeOfNames_132 (by decide) ⟨by omega, by omega⟩ ⟨by omega, by omega⟩ (fun h132 => ?_) (fun h132 => ?_)
        · refine g_iload hC dX3_copyCodeOfNames_138 rfl ?_
          refine g_if_le (tgt := 147) hC dX3_copyCodeOfNames_140 (by decide) ⟨by omega, by omega⟩ (fun h140 => ?_) (fun h140 => ?_)
          · refine g_iconst hC dX3_copyCodeOfNames_147 ?_
            refine g_iret hC hI rfl dX3_copyCodeOfNames_148 (Nat.le_of_ble_eq_true rfl) (Nat.le_of_ble_eq_true rfl) ⟨rfl, rfl, rfl, _, rfl, ?_⟩
            rw [spec, if_neg (by omega), if_neg (by omega)]
            first | rw [if_pos (by omega)] | rw [if_neg (by omega)]
          · refine g_iconst hC dX3_copyCodeOfNames_143 ?_
            refine g_goto (tgt := 148) hC dX3_copyCodeOfNames_144 (by decide) ?_
            refine g_iret hC hI rfl dX3_copyCodeOfNames_148 (Nat.le_of_ble_eq_true rfl) (Nat.le_of_ble_eq_true rfl) ⟨rfl, rfl, rfl, _, rfl, ?_⟩
            rw [spec, if_neg (by omega), if_neg (by omega)]
            first | rw [if_pos (by omega)] | rw [if_neg (by omega)]
        · refine g_bipush hC dX3_copyCodeOfNames_135 (by decide +kernel) ?_
          refine g_iret hC hI rfl dX3_copyCodeOfNames_137 (Nat.le_of_ble_eq_true rfl) (Nat.le_of_ble_eq_true rfl) ⟨rfl, rfl, rfl, _, rfl, ?_⟩
          rw [spec, if_neg (by omega), if_pos (by omega)]
      · refine g_iload hC dX3_copyCodeOfNames_114 rfl ?_
        refine g_iconst hC dX3_copyCodeOfNames_116 ?_
        refine g_icmp_le (tgt := 123) hC dX3_copyCodeOfNames_117 (by decide) ⟨by omega, by omega⟩ ⟨by omega, by omega⟩ (fun h117 => ?_) (fun h117 => ?_)
        · refine g_aload_n hC dX3_copyCodeOfNames_123 rfl ?_
          refine g_getI hC fdX3_29 (by assumption) dX3_copyCodeOfNames_124 ?_
          refine g_iload hC dX3_copyCodeOfNames_127 rfl ?_
          refine g_iadd hC dX3_copyCodeOfNames_129 ?_
          refine g_bipush hC dX3_copyCodeOfNames_130 (by decide +kernel) ?_
          refine g_icmp_le (tgt := 138) hC dX3_copyCodeOfNames_132 (by decide) ⟨by omega, by omega⟩ ⟨by omega, by omega⟩ (fun h132 => ?_) (fun h132 => ?_)
          · refine g_iload hC dX3_copyCodeOfNames_138 rfl ?_
            refine g_if_le (tgt := 147) hC dX3_copyCodeOfNames_140 (by decide) ⟨by omega, by omega⟩ (fun h140 => ?_) (fun h140 => ?_)
            · refine g_iconst hC dX3_copyCodeOfNames_147 ?_
              refine g_iret hC hI rfl dX3_copyCodeOfNames_148 (Nat.le_of_ble_eq_true rfl) (Nat.le_of_ble_eq_true rfl) ⟨rfl, rfl, rfl, _, rfl, ?_⟩
              rw [spec, if_neg (by omega), if_neg (by omega)]
              first | rw [if_pos (by omega)] | rw [if_neg (by omega)]
            · refine g_iconst hC dX3_copyCodeOfNames_143 ?_
              refine g_goto (tgt := 148) hC dX3_copyCodeOfNames_144 (by decide) ?_
              refine g_iret hC hI rfl dX3_copyCodeOfNames_148 (Nat.le_of_ble_eq_true rfl) (Nat.le_of_ble_eq_true rfl) ⟨rfl, rfl, rfl, _, rfl, ?_⟩
              rw [spec, if_neg (by omega), if_neg (by omega)]
              first | rw [if_pos (by omega)] | rw [if_neg (by omega)]
          · refine g_bipush hC dX3_copyCodeOfNames_135 (by decide +kernel) ?_
            refine g_iret hC hI rfl dX3_copyCodeOfNames_137 (Nat.le_of_ble_eq_true rfl) (Nat.le_of_ble_eq_true rfl) ⟨rfl, rfl, rfl, _, rfl, ?_⟩
            rw [spec, if_neg (by omega), if_pos (by omega)]
        · refine g_bipush hC dX3_copyCodeOfNames_120 (by decide +kernel) ?_
          refine g_iret hC hI rfl dX3_copyCodeOfNames_122 (Nat.le_of_ble_eq_true rfl) (Nat.le_of_ble_eq_true rfl) ⟨rfl, rfl, rfl, _, rfl, ?_⟩
          rw [spec, if_pos (by omega)]
  have J21 : ∀ (k : Nat) (own : Int) (s d g : Nat) o10 o11, own + k = F + K → 0 ≤ own → s + cnt (srcB ms f) k own = cnt (srcB ms f) K F → d + cnt (frsB ms f t w) k own = cnt (frsB ms f t w) K F → g + cnt (lftB rp ms f t w) k own = cnt (lftB rp ms f t w) K F → gG X sh rf mem 0 0 21 [some (.ref a), some (.int (iI f)), some (.int (iI t)), some (.int (iI n)), some (.int (iI w)), some (.int (iI s)), some (.int (iI d)), some (.int (iI g)), some (.int (iI (F + K - 1))), some (.int (iI own)), o10, o11] [] := by
    intro k
    induction k with
    | zero =>
      intro own s d g o10 o11 c1 c2 c3 c4 c5
      refine g_iload hC dX3_copyCodeOfNames_21 rfl ?_
      refine g_iload hC dX3_copyCodeOfNames_23 rfl ?_
      refine g_icmp_gt (tgt := 103) hC dX3_copyCodeOfNames_25 (by decide) ⟨by omega, by omega⟩ ⟨by omega, by omega⟩ (fun h25 => ?_) (fun h25 => ?_)
      · have z1 : s = cnt (srcB ms f) K F := c3
        have z2 : d = cnt (frsB ms f t w) K F := c4
        have z3 : g = cnt (lftB rp ms f t w) K F := c5
        rw [z1, z2, z3]
        exact J103 own o10 o11
      · exfalso; omega
    | succ k ih =>
      intro own s d g o10 o11 c1 c2 c3 c4 c5
      refine g_iload hC dX3_copyCodeOfNames_21 rfl ?_
      refine g_iload hC dX3_copyCodeOfNames_23 rfl ?_
      refine g_icmp_gt (tgt := 103) hC dX3_copyCodeOfNames_25 (by decide) ⟨by omega, by omega⟩ ⟨by omega, by omega⟩ (fun h25 => ?_) (fun h25 => ?_)
      · exfalso; omega
      · refine g_aload_n hC dX3_copyCodeOfNames_28 rfl ?_
        refine g_iload_n hC dX3_copyCodeOfNames_29 rfl ?_
        refine g_iload hC dX3_copyCodeOfNames_30 rfl ?_
        refine g_VP hC (kX3_numberOf (gl X) (gD X) (gac X) a a0 a1 a2 la l0 l1 l2 rp ms f own hO9 hv9 i_p ⟨by omega, by omega⟩) cvX3_numberOf lkX3_69 (by assumption) rfl rfl (Nat.le_of_ble_eq_true rfl) (hI.fit (Nat.le_of_ble_eq_true rfl) (Nat.le_of_ble_eq_true rfl) (Nat.le_of_ble_eq_true rfl)) dX3_copyCodeOfNames_32 (fun x32 hx32 => ?_)
        subst hx32
        have le1 := memS_le f own ms
        refine g_istore hC dX3_copyCodeOfNames_35 (Nat.le_of_ble_eq_true rfl) ?_
        dsimp only [List.set]
        refine g_iload hC dX3_copyCodeOfNames_37 rfl ?_
        refine g_if_ne (tgt := 45) hC dX3_copyCodeOfNames_39 (by decide) ⟨by omega, by omega⟩ (fun h39 => ?_) (fun h39 => ?_)
        · refine g_aload_n hC dX3_copyCodeOfNames_45 rfl ?_
          refine g_iload_n hC dX3_copyCodeOfNames_46 rfl ?_
          refine g_iload hC dX3_copyCodeOfNames_47 rfl ?_
          refine g_iconst hC dX3_copyCodeOfNames_49 ?_
          refine g_icmp_ne (tgt := 58) hC dX3_copyCodeOfNames_50 (by decide) ⟨by omega, by omega⟩ ⟨by omega, by omega⟩ (fun h50 => ?_) (fun h50 => ?_)
          · refine g_iload hC dX3_copyCodeOfNames_58 rfl ?_
            first | have e37 : tn w own = own := by rw [tn, if_pos (by omega)] | have e37 : tn w own = w := by rw [tn, if_neg (by omega)]
            refine g_VP hC (kX3_numberOf (gl X) (gD X) (gac X) a a0 a1 a2 la l0 l1 l2 rp ms t _ hO9 hv9 i_q ⟨by omega, by omega⟩) cvX3_numberOf lkX3_69 (by assumption) rfl rfl (Nat.le_of_ble_eq_true rfl) (hI.fit (Nat.le_of_ble_eq_true rfl) (Nat.le_of_ble_eq_true rfl) (Nat.le_of_ble_eq_true rfl)) dX3_copyCodeOfNames_60 (fun x60 hx60 => ?_)
            subst hx60
            have le2 := memS_le t (tn w own) ms
            rw [e37] at le2
            refine g_istore hC dX3_copyCodeOfNames_63 (Nat.le_of_ble_eq_true rfl) ?_
            dsimp only [List.set]
            refine g_iinc hC dX3_copyCodeOfNames_65 rfl ?_
            dsimp only [List.set]
            refine g_iload hC dX3_copyCodeOfNames_68 rfl ?_
            refine g_if_ne (tgt := 79) hC dX3_copyCodeOfNames_70 (by decide) ⟨by omega, by omega⟩ (fun h70 => ?_) (fun h70 => ?_)
            · refine g_iload hC dX3_copyCodeOfNames_79 rfl ?_
              refine g_iload hC dX3_copyCodeOfNames_81 rfl ?_
              refine g_icmp_eq (tgt := 97) hC dX3_copyCodeOfNames_83 (by decide) ⟨by omega, by omega⟩ ⟨by omega, by omega⟩ (fun h83 => ?_) (fun h83 => ?_)
              · refine g_iinc hC dX3_copyCodeOfNames_97 rfl ?_
                dsimp only [List.set]
                refine g_goto (tgt := 21) hC dX3_copyCodeOfNames_100 (by decide) ?_
                first
                | (have e5 : x10 = F + K - 1 := by omega
                   have e6 : x16 = F := by omega
                   subst e5 e6
                   exact J21 K x16 0 0 0 none none rfl (by omega) (Nat.zero_add _) (Nat.zero_add _) (Nat.zero_add _))
                | (have z : memS ms f own = 0 := by omega
                   refine ih (own + 1) s d g _ _ (by omega) (by omega) ?_ ?_ ?_
                   · rw [cnt_f (by simp [srcB, z])] at c3; exact c3
                   · rw [cnt_f (by simp [frsB, z])] at c4; exact c4
                   · rw [cnt_f (by simp [lftB, z])] at c5; exact c5)
                | (have z : memS ms f own ≠ 0 := by omega
                   have z2 : memS ms t (tn w own) = 0 := by rw [e37]; omega
                   refine ih (own + 1) (s + 1) (d + 1) g _ _ (by omega) (by omega) ?_ ?_ ?_
                   · rw [cnt_t (by simp [srcB, z])] at c3; omega
                   · rw [cnt_t (by simp [frsB, z, z2])] at c4; omega
                   · rw [cnt_f (by simp [lftB, z2])] at c5; exact c5)
                | (have z : memS ms f own ≠ 0 := by omega
                   have z2 : memS ms t (tn w own) ≠ 0 := by rw [e37]; omega
                   have z3 : memS ms t (tn w own) = memS ms f own := by rw [e37]; omega
                   refine ih (own + 1) (s + 1) d g _ _ (by omega) (by omega) ?_ ?_ ?_
                   · rw [cnt_t (by simp [srcB, z])] at c3; omega
                   · rw [cnt_f (by simp [frsB, z2])] at c4; exact c4
                   · rw [cnt_f (by simp [lftB, z3])] at c5; exact c5)
                | (have z : memS ms f own ≠ 0 := by omega
                   have z2 : memS ms t (tn w own) ≠ 0 := by rw [e37]; omega
                   have z4 : rpl rp t := by
                     rcases hx88 with ⟨-, h⟩ | ⟨h, -⟩
                     · exact h
                     · omega
                   refine ih (own + 1) (s + 1) d g _ _ (by omega) (by omega) ?_ ?_ ?_
                   · rw [cnt_t (by simp [srcB, z])] at c3; omega
                   · rw [cnt_f (by simp [frsB, z2])] at c4; exact c4
                   · rw [cnt_f (decide_eq_false (fun q => q.2.2.2 z4))] at c5; exact c5)
                | (have z : memS ms f own ≠ 0 := by omega
                   have z2 : memS ms t (tn w own) ≠ 0 := by rw [e37]; omega
                   have z3 : memS ms t (tn w own) ≠ memS ms f own := by rw [e37]; omega
                   have z4 : ¬ rpl rp t := by
                     rcases hx88 with ⟨h, -⟩ | ⟨-, h⟩
                     · omega
                     · exact h
                   refine ih (own + 1) (s + 1) d (g + 1) _ _ (by omega) (by omega) ?_ ?_ ?_
                   · rw [cnt_t (by simp [srcB, z])] at c3; omega
                   · rw [cnt_f (by simp [frsB, z2])] at c4; exact c4
                   · rw [cnt_t (decide_eq_true ⟨z, z2, z3, z4⟩)] at c5; omega)
              · refine g_aload_n hC dX3_copyCodeOfNames_86 rfl ?_
                refine g_iload_n hC dX3_copyCodeOfNames_87 rfl ?_
                refine g_VP hC (kX3_isReplacing (gl X) (gD X) (gac X) a a0 a1 a2 la l0 l1 l2 rp ms t hO9 hv9 i_q) cvX3_isReplacing lkX3_72 (by assumption) rfl rfl (Nat.le_of_ble_eq_true rfl) (hI.fit (Nat.le_of_ble_eq_true rfl) (Nat.le_of_ble_eq_true rfl) (Nat.le_of_ble_eq_true rfl)) dX3_copyCodeOfNames_88 (fun x88 hx88 => ?_)
                refine g_if_ne (tgt := 97) hC dX3_copyCodeOfNames_91 (by decide) ⟨by omega, by omega⟩ (fun h91 => ?_) (fun h91 => ?_)
                · refine g_iinc hC dX3_copyCodeOfNames_97 rfl ?_
                  dsimp only [List.set]
                  refine g_goto (tgt := 21) hC dX3_copyCodeOfNames_100 (by decide) ?_
                  first
                  | (have e5 : x10 = F + K - 1 := by omega
                     have e6 : x16 = F := by omega
                     subst e5 e6
                     exact J21 K x16 0 0 0 none none rfl (by omega) (Nat.zero_add _) (Nat.zero_add _) (Nat.zero_add _))
                  | (have z : memS ms f own = 0 := by omega
                     refine ih (own + 1) s d g _ _ (by omega) (by omega) ?_ ?_ ?_
                     · rw [cnt_f (by simp [srcB, z])] at c3; exact c3
                     · rw [cnt_f (by simp [frsB, z])] at c4; exact c4
                     · rw [cnt_f (by simp [lftB, z])] at c5; exact c5)
                  | (have z : memS ms f own ≠ 0 := by omega
                     have z2 : memS ms t (tn w own) = 0 := by rw [e37]; omega
                     refine ih (own + 1) (s + 1) (d + 1) g _ _ (by omega) (by omega) ?_ ?_ ?_
                     · rw [cnt_t (by simp [srcB, z])] at c3; omega
                     · rw [cnt_t (by simp [frsB, z, z2])] at c4; omega
                     · rw [cnt_f (by simp [lftB, z2])] at c5; exact c5)
                  | (have z : memS ms f own ≠ 0 := by omega
                     have z2 : memS ms t (tn w own) ≠ 0 := by rw [e37]; omega
                     have z3 : memS ms t (tn w own) = memS ms f own := by rw [e37]; omega
                     refine ih (own + 1) (s + 1) d g _ _ (by omega) (by omega) ?_ ?_ ?_
                     · rw [cnt_t (by simp [srcB, z])] at c3; omega
                     · rw [cnt_f (by simp [frsB, z2])] at c4; exact c4
                     · rw [cnt_f (by simp [lftB, z3])] at c5; exact c5)
                  | (have z : memS ms f own ≠ 0 := by omega
                     have z2 : memS ms t (tn w own) ≠ 0 := by rw [e37]; omega
                     have z4 : rpl rp t := by
                       rcases hx88 with ⟨-, h⟩ | ⟨h, -⟩
                       · exact h
                       · omega
                     refine ih (own + 1) (s + 1) d g _ _ (by omega) (by omega) ?_ ?_ ?_
                     · rw [cnt_t (by simp [srcB, z])] at c3; omega
                     · rw [cnt_f (by simp [frsB, z2])] at c4; exact c4
                     · rw [cnt_f (decide_eq_false (fun q => q.2.2.2 z4))] at c5; exact c5)
                  | (have z : memS ms f own ≠ 0 := by omega
                     have z2 : memS ms t (tn w own) ≠ 0 := by rw [e37]; omega
                     have z3 : memS ms t (tn w own) ≠ memS ms f own := by rw [e37]; omega
                     have z4 : ¬ rpl rp t := by
                       rcases hx88 with ⟨h, -⟩ | ⟨-, h⟩
                       · omega
                       · exact h
                     refine ih (own + 1) (s + 1) d (g + 1) _ _ (by omega) (by omega) ?_ ?_ ?_
                     · rw [cnt_t (by simp [srcB, z])] at c3; omega
                     · rw [cnt_f (by simp [frsB, z2])] at c4; exact c4
                     · rw [cnt_t (decide_eq_true ⟨z, z2, z3, z4⟩)] at c5; omega)
                · refine g_iinc hC dX3_copyCodeOfNames_94 rfl ?_
                  dsimp only [List.set]
                  refine g_iinc hC dX3_copyCodeOfNames_97 rfl ?_
                  dsimp only [List.set]
                  refine g_goto (tgt := 21) hC dX3_copyCodeOfNames_100 (by decide) ?_
                  first
                  | (have e5 : x10 = F + K - 1 := by omega
                     have e6 : x16 = F := by omega
                     subst e5 e6
                     exact J21 K x16 0 0 0 none none rfl (by omega) (Nat.zero_add _) (Nat.zero_add _) (Nat.zero_add _))
                  | (have z : memS ms f own = 0 := by omega
                     refine ih (own + 1) s d g _ _ (by omega) (by omega) ?_ ?_ ?_
                     · rw [cnt_f (by simp [srcB, z])] at c3; exact c3
                     · rw [cnt_f (by simp [frsB, z])] at c4; exact c4
                     · rw [cnt_f (by simp [lftB, z])] at c5; exact c5)
                  | (have z : memS ms f own ≠ 0 := by omega
                     have z2 : memS ms t (tn w own) = 0 := by rw [e37]; omega
                     refine ih (own + 1) (s + 1) (d + 1) g _ _ (by omega) (by omega) ?_ ?_ ?_
                     · rw [cnt_t (by simp [srcB, z])] at c3; omega
                     · rw [cnt_t (by simp [frsB, z, z2])] at c4; omega
                     · rw [cnt_f (by simp [lftB, z2])] at c5; exact c5)
                  | (have z : memS ms f own ≠ 0 := by omega
                     have z2 : memS ms t (tn w own) ≠ 0 := by rw [e37]; omega
                     have z3 : memS ms t (tn w own) = memS ms f own := by rw [e37]; omega
                     refine ih (own + 1) (s + 1) d g _ _ (by omega) (by omega) ?_ ?_ ?_
                     · rw [cnt_t (by simp [srcB, z])] at c3; omega
                     · rw [cnt_f (by simp [frsB, z2])] at c4; exact c4
                     · rw [cnt_f (by simp [lftB, z3])] at c5; exact c5)
                  | (have z : memS ms f own ≠ 0 := by omega
                     have z2 : memS ms t (tn w own) ≠ 0 := by rw [e37]; omega
                     have z4 : rpl rp t := by
                       rcases hx88 with ⟨-, h⟩ | ⟨h, -⟩
                       · exact h
                       · omega
                     refine ih (own + 1) (s + 1) d g _ _ (by omega) (by omega) ?_ ?_ ?_
                     · rw [cnt_t (by simp [srcB, z])] at c3; omega
                     · rw [cnt_f (by simp [frsB, z2])] at c4; exact c4
                     · rw [cnt_f (decide_eq_false (fun q => q.2.2.2 z4))] at c5; exact c5)
                  | (have z : memS ms f own ≠ 0 := by omega
                     have z2 : memS ms t (tn w own) ≠ 0 := by rw [e37]; omega
                     have z3 : memS ms t (tn w own) ≠ memS ms f own := by rw [e37]; omega
                     have z4 : ¬ rpl rp t := by
                       rcases hx88 with ⟨h, -⟩ | ⟨-, h⟩
                       · omega
                       · exact h
                     refine ih (own + 1) (s + 1) d (g + 1) _ _ (by omega) (by omega) ?_ ?_ ?_
                     · rw [cnt_t (by simp [srcB, z])] at c3; omega
                     · rw [cnt_f (by simp [frsB, z2])] at c4; exact c4
                     · rw [cnt_t (decide_eq_true ⟨z, z2, z3, z4⟩)] at c5; omega)
            · refine g_iinc hC dX3_copyCodeOfNames_73 rfl ?_
              dsimp only [List.set]
              refine g_goto (tgt := 97) hC dX3_copyCodeOfNames_76 (by decide) ?_
              refine g_iinc hC dX3_copyCodeOfNames_97 rfl ?_
              dsimp only [List.set]
              refine g_goto (tgt := 21) hC dX3_copyCodeOfNames_100 (by decide) ?_
              first
              | (have e5 : x10 = F + K - 1 := by omega
                 have e6 : x16 = F := by omega
                 subst e5 e6
                 exact J21 K x16 0 0 0 none none rfl (by omega) (Nat.zero_add _) (Nat.zero_add _) (Nat.zero_add _))
              | (have z : memS ms f own = 0 := by omega
                 refine ih (own + 1) s d g _ _ (by omega) (by omega) ?_ ?_ ?_
                 · rw [cnt_f (by simp [srcB, z])] at c3; exact c3
                 · rw [cnt_f (by simp [frsB, z])] at c4; exact c4
                 · rw [cnt_f (by simp [lftB, z])] at c5; exact c5)
              | (have z : memS ms f own ≠ 0 := by omega
                 have z2 : memS ms t (tn w own) = 0 := by rw [e37]; omega
                 refine ih (own + 1) (s + 1) (d + 1) g _ _ (by omega) (by omega) ?_ ?_ ?_
                 · rw [cnt_t (by simp [srcB, z])] at c3; omega
                 · rw [cnt_t (by simp [frsB, z, z2])] at c4; omega
                 · rw [cnt_f (by simp [lftB, z2])] at c5; exact c5)
              | (have z : memS ms f own ≠ 0 := by omega
                 have z2 : memS ms t (tn w own) ≠ 0 := by rw [e37]; omega
                 have z3 : memS ms t (tn w own) = memS ms f own := by rw [e37]; omega
                 refine ih (own + 1) (s + 1) d g _ _ (by omega) (by omega) ?_ ?_ ?_
                 · rw [cnt_t (by simp [srcB, z])] at c3; omega
                 · rw [cnt_f (by simp [frsB, z2])] at c4; exact c4
                 · rw [cnt_f (by simp [lftB, z3])] at c5; exact c5)
              | (have z : memS ms f own ≠ 0 := by omega
                 have z2 : memS ms t (tn w own) ≠ 0 := by rw [e37]; omega
                 have z4 : rpl rp t := by
                   rcases hx88 with ⟨-, h⟩ | ⟨h, -⟩
                   · exact h
                   · omega
                 refine ih (own + 1) (s + 1) d g _ _ (by omega) (by omega) ?_ ?_ ?_
                 · rw [cnt_t (by simp [srcB, z])] at c3; omega
                 · rw [cnt_f (by simp [frsB, z2])] at c4; exact c4
                 · rw [cnt_f (decide_eq_false (fun q => q.2.2.2 z4))] at c5; exact c5)
              | (have z : memS ms f own ≠ 0 := by omega
                 have z2 : memS ms t (tn w own) ≠ 0 := by rw [e37]; omega
                 have z3 : memS ms t (tn w own) ≠ memS ms f own := by rw [e37]; omega
                 have z4 : ¬ rpl rp t := by
                   rcases hx88 with ⟨h, -⟩ | ⟨-, h⟩
                   · omega
                   · exact h
                 refine ih (own + 1) (s + 1) d (g + 1) _ _ (by omega) (by omega) ?_ ?_ ?_
                 · rw [cnt_t (by simp [srcB, z])] at c3; omega
                 · rw [cnt_f (by simp [frsB, z2])] at c4; exact c4
                 · rw [cnt_t (decide_eq_true ⟨z, z2, z3, z4⟩)] at c5; omega)
          · refine g_iload hC dX3_copyCodeOfNames_53 rfl ?_
            refine g_goto (tgt := 60) hC dX3_copyCodeOfNames_55 (by decide) ?_
            first | have e37 : tn w own = own := by rw [tn, if_pos (by omega)] | have e37 : tn w own = w := by rw [tn, if_neg (by omega)]
            refine g_VP hC (kX3_numberOf (gl X) (gD X) (gac X) a a0 a1 a2 la l0 l1 l2 rp ms t _ hO9 hv9 i_q ⟨by omega, by omega⟩) cvX3_numberOf lkX3_69 (by assumption) rfl rfl (Nat.le_of_ble_eq_true rfl) (hI.fit (Nat.le_of_ble_eq_true rfl) (Nat.le_of_ble_eq_true rfl) (Nat.le_of_ble_eq_true rfl)) dX3_copyCodeOfNames_60 (fun x60 hx60 => ?_)
            subst hx60
            have le2 := memS_le t (tn w own) ms
            rw [e37] at le2
            refine g_istore hC dX3_copyCodeOfNames_63 (Nat.le_of_ble_eq_true rfl) ?_
            dsimp only [List.set]
            refine g_iinc hC dX3_copyCodeOfNames_65 rfl ?_
            dsimp only [List.set]
            refine g_iload hC dX3_copyCodeOfNames_68 rfl ?_
            refine g_if_ne (tgt := 79) hC dX3_copyCodeOfNames_70 (by decide) ⟨by omega, by omega⟩ (fun h70 => ?_) (fun h70 => ?_)
            · refine g_iload hC dX3_copyCodeOfNames_79 rfl ?_
              refine g_iload hC dX3_copyCodeOfNames_81 rfl ?_
              refine g_icmp_eq (tgt := 97) hC dX3_copyCodeOfNames_83 (by decide) ⟨by omega, by omega⟩ ⟨by omega, by omega⟩ (fun h83 => ?_) (fun h83 => ?_)
              · refine g_iinc hC dX3_copyCodeOfNames_97 rfl ?_
                dsimp only [List.set]
                refine g_goto (tgt := 21) hC dX3_copyCodeOfNames_100 (by decide) ?_
                first
                | (have e5 : x10 = F + K - 1 := by omega
                   have e6 : x16 = F := by omega
                   subst e5 e6
                   exact J21 K x16 0 0 0 none none rfl (by omega) (Nat.zero_add _) (Nat.zero_add _) (Nat.zero_add _))
                | (have z : memS ms f own = 0 := by omega
                   refine ih (own + 1) s d g _ _ (by omega) (by omega) ?_ ?_ ?_
                   · rw [cnt_f (by simp [srcB, z])] at c3; exact c3
                   · rw [cnt_f (by simp [frsB, z])] at c4; exact c4
                   · rw [cnt_f (by simp [lftB, z])] at c5; exact c5)
                | (have z : memS ms f own ≠ 0 := by omega
                   have z2 : memS ms t (tn w own) = 0 := by rw [e37]; omega
                   refine ih (own + 1) (s + 1) (d + 1) g _ _ (by omega) (by omega) ?_ ?_ ?_
                   · rw [cnt_t (by simp [srcB, z])] at c3; omega
                   · rw [cnt_t (by simp [frsB, z, z2])] at c4; omega
                   · rw [cnt_f (by simp [lftB, z2])] at c5; exact c5)
                | (have z : memS ms f own ≠ 0 := by omega
                   have z2 : memS ms t (tn w own) ≠ 0 := by rw [e37]; omega
                   have z3 : memS ms t (tn w own) = memS ms f own := by rw [e37]; omega
                   refine ih (own + 1) (s + 1) d g _ _ (by omega) (by omega) ?_ ?_ ?_
                   · rw [cnt_t (by simp [srcB, z])] at c3; omega
                   · rw [cnt_f (by simp [frsB, z2])] at c4; exact c4
                   · rw [cnt_f (by simp [lftB, z3])] at c5; exact c5)
                | (have z : memS ms f own ≠ 0 := by omega
                   have z2 : memS ms t (tn w own) ≠ 0 := by rw [e37]; omega
                   have z4 : rpl rp t := by
                     rcases hx88 with ⟨-, h⟩ | ⟨h, -⟩
                     · exact h
                     · omega
                   refine ih (own + 1) (s + 1) d g _ _ (by omega) (by omega) ?_ ?_ ?_
                   · rw [cnt_t (by simp [srcB, z])] at c3; omega
                   · rw [cnt_f (by simp [frsB, z2])] at c4; exact c4
                   · rw [cnt_f (decide_eq_false (fun q => q.2.2.2 z4))] at c5; exact c5)
                | (have z : memS ms f own ≠ 0 := by omega
                   have z2 : memS ms t (tn w own) ≠ 0 := by rw [e37]; omega
                   have z3 : memS ms t (tn w own) ≠ memS ms f own := by rw [e37]; omega
                   have z4 : ¬ rpl rp t := by
                     rcases hx88 with ⟨h, -⟩ | ⟨-, h⟩
                     · omega
                     · exact h
                   refine ih (own + 1) (s + 1) d (g + 1) _ _ (by omega) (by omega) ?_ ?_ ?_
                   · rw [cnt_t (by simp [srcB, z])] at c3; omega
                   · rw [cnt_f (by simp [frsB, z2])] at c4; exact c4
                   · rw [cnt_t (decide_eq_true ⟨z, z2, z3, z4⟩)] at c5; omega)
              · refine g_aload_n hC dX3_copyCodeOfNames_86 rfl ?_
                refine g_iload_n hC dX3_copyCodeOfNames_87 rfl ?_
                refine g_VP hC (kX3_isReplacing (gl X) (gD X) (gac X) a a0 a1 a2 la l0 l1 l2 rp ms t hO9 hv9 i_q) cvX3_isReplacing lkX3_72 (by assumption) rfl rfl (Nat.le_of_ble_eq_true rfl) (hI.fit (Nat.le_of_ble_eq_true rfl) (Nat.le_of_ble_eq_true rfl) (Nat.le_of_ble_eq_true rfl)) dX3_copyCodeOfNames_88 (fun x88 hx88 => ?_)
                refine g_if_ne (tgt := 97) hC dX3_copyCodeOfNames_91 (by decide) ⟨by omega, by omega⟩ (fun h91 => ?_) (fun h91 => ?_)
                · refine g_iinc hC dX3_copyCodeOfNames_97 rfl ?_
                  dsimp only [List.set]
                  refine g_goto (tgt := 21) hC dX3_copyCodeOfNames_100 (by decide) ?_
                  first
                  | (have e5 : x10 = F + K - 1 := by omega
                     have e6 : x16 = F := by omega
                     subst e5 e6
                     exact J21 K x16 0 0 0 none none rfl (by omega) (Nat.zero_add _) (Nat.zero_add _) (Nat.zero_add _))
                  | (have z : memS ms f own = 0 := by omega
                     refine ih (own + 1) s d g _ _ (by omega) (by omega) ?_ ?_ ?_
                     · rw [cnt_f (by simp [srcB, z])] at c3; exact c3
                     · rw [cnt_f (by simp [frsB, z])] at c4; exact c4
                     · rw [cnt_f (by simp [lftB, z])] at c5; exact c5)
                  | (have z : memS ms f own ≠ 0 := by omega
                     have z2 : memS ms t (tn w own) = 0 := by rw [e37]; omega
                     refine ih (own + 1) (s + 1) (d + 1) g _ _ (by omega) (by omega) ?_ ?_ ?_
                     · rw [cnt_t (by simp [srcB, z])] at c3; omega
                     · rw [cnt_t (by simp [frsB, z, z2])] at c4; omega
                     · rw [cnt_f (by simp [lftB, z2])] at c5; exact c5)
                  | (have z : memS ms f own ≠ 0 := by omega
                     have z2 : memS ms t (tn w own) ≠ 0 := by rw [e37]; omega
                     have z3 : memS ms t (tn w own) = memS ms f own := by rw [e37]; omega
                     refine ih (own + 1) (s + 1) d g _ _ (by omega) (by omega) ?_ ?_ ?_
                     · rw [cnt_t (by simp [srcB, z])] at c3; omega
                     · rw [cnt_f (by simp [frsB, z2])] at c4; exact c4
                     · rw [cnt_f (by simp [lftB, z3])] at c5; exact c5)
                  | (have z : memS ms f own ≠ 0 := by omega
                     have z2 : memS ms t (tn w own) ≠ 0 := by rw [e37]; omega
                     have z4 : rpl rp t := by
                       rcases hx88 with ⟨-, h⟩ | ⟨h, -⟩
                       · exact h
                       · omega
                     refine ih (own + 1) (s + 1) d g _ _ (by omega) (by omega) ?_ ?_ ?_
                     · rw [cnt_t (by simp [srcB, z])] at c3; omega
                     · rw [cnt_f (by simp [frsB, z2])] at c4; exact c4
                     · rw [cnt_f (decide_eq_false (fun q => q.2.2.2 z4))] at c5; exact c5)
                  | (have z : memS ms f own ≠ 0 := by omega
                     have z2 : memS ms t (tn w own) ≠ 0 := by rw [e37]; omega
                     have z3 : memS ms t (tn w own) ≠ memS ms f own := by rw [e37]; omega
                     have z4 : ¬ rpl rp t := by
                       rcases hx88 with ⟨h, -⟩ | ⟨-, h⟩
                       · omega
                       · exact h
                     refine ih (own + 1) (s + 1) d (g + 1) _ _ (by omega) (by omega) ?_ ?_ ?_
                     · rw [cnt_t (by simp [srcB, z])] at c3; omega
                     · rw [cnt_f (by simp [frsB, z2])] at c4; exact c4
                     · rw [cnt_t (decide_eq_true ⟨z, z2, z3, z4⟩)] at c5; omega)
                · refine g_iinc hC dX3_copyCodeOfNames_94 rfl ?_
                  dsimp only [List.set]
                  refine g_iinc hC dX3_copyCodeOfNames_97 rfl ?_
                  dsimp only [List.set]
                  refine g_goto (tgt := 21) hC dX3_copyCodeOfNames_100 (by decide) ?_
                  first
                  | (have e5 : x10 = F + K - 1 := by omega
                     have e6 : x16 = F := by omega
                     subst e5 e6
                     exact J21 K x16 0 0 0 none none rfl (by omega) (Nat.zero_add _) (Nat.zero_add _) (Nat.zero_add _))
                  | (have z : memS ms f own = 0 := by omega
                     refine ih (own + 1) s d g _ _ (by omega) (by omega) ?_ ?_ ?_
                     · rw [cnt_f (by simp [srcB, z])] at c3; exact c3
                     · rw [cnt_f (by simp [frsB, z])] at c4; exact c4
                     · rw [cnt_f (by simp [lftB, z])] at c5; exact c5)
                  | (have z : memS ms f own ≠ 0 := by omega
                     have z2 : memS ms t (tn w own) = 0 := by rw [e37]; omega
                     refine ih (own + 1) (s + 1) (d + 1) g _ _ (by omega) (by omega) ?_ ?_ ?_
                     · rw [cnt_t (by simp [srcB, z])] at c3; omega
                     · rw [cnt_t (by simp [frsB, z, z2])] at c4; omega
                     · rw [cnt_f (by simp [lftB, z2])] at c5; exact c5)
                  | (have z : memS ms f own ≠ 0 := by omega
                     have z2 : memS ms t (tn w own) ≠ 0 := by rw [e37]; omega
                     have z3 : memS ms t (tn w own) = memS ms f own := by rw [e37]; omega
                     refine ih (own + 1) (s + 1) d g _ _ (by omega) (by omega) ?_ ?_ ?_
                     · rw [cnt_t (by simp [srcB, z])] at c3; omega
                     · rw [cnt_f (by simp [frsB, z2])] at c4; exact c4
                     · rw [cnt_f (by simp [lftB, z3])] at c5; exact c5)
                  | (have z : memS ms f own ≠ 0 := by omega
                     have z2 : memS ms t (tn w own) ≠ 0 := by rw [e37]; omega
                     have z4 : rpl rp t := by
                       rcases hx88 with ⟨-, h⟩ | ⟨h, -⟩
                       · exact h
                       · omega
                     refine ih (own + 1) (s + 1) d g _ _ (by omega) (by omega) ?_ ?_ ?_
                     · rw [cnt_t (by simp [srcB, z])] at c3; omega
                     · rw [cnt_f (by simp [frsB, z2])] at c4; exact c4
                     · rw [cnt_f (decide_eq_false (fun q => q.2.2.2 z4))] at c5; exact c5)
                  | (have z : memS ms f own ≠ 0 := by omega
                     have z2 : memS ms t (tn w own) ≠ 0 := by rw [e37]; omega
                     have z3 : memS ms t (tn w own) ≠ memS ms f own := by rw [e37]; omega
                     have z4 : ¬ rpl rp t := by
                       rcases hx88 with ⟨h, -⟩ | ⟨-, h⟩
                       · omega
                       · exact h
                     refine ih (own + 1) (s + 1) d (g + 1) _ _ (by omega) (by omega) ?_ ?_ ?_
                     · rw [cnt_t (by simp [srcB, z])] at c3; omega
                     · rw [cnt_f (by simp [frsB, z2])] at c4; exact c4
                     · rw [cnt_t (decide_eq_true ⟨z, z2, z3, z4⟩)] at c5; omega)
            · refine g_iinc hC dX3_copyCodeOfNames_73 rfl ?_
              dsimp only [List.set]
              refine g_goto (tgt := 97) hC dX3_copyCodeOfNames_76 (by decide) ?_
              refine g_iinc hC dX3_copyCodeOfNames_97 rfl ?_
              dsimp only [List.set]
              refine g_goto (tgt := 21) hC dX3_copyCodeOfNames_100 (by decide) ?_
              first
              | (have e5 : x10 = F + K - 1 := by omega
                 have e6 : x16 = F := by omega
                 subst e5 e6
                 exact J21 K x16 0 0 0 none none rfl (by omega) (Nat.zero_add _) (Nat.zero_add _) (Nat.zero_add _))
              | (have z : memS ms f own = 0 := by omega
                 refine ih (own + 1) s d g _ _ (by omega) (by omega) ?_ ?_ ?_
                 · rw [cnt_f (by simp [srcB, z])] at c3; exact c3
                 · rw [cnt_f (by simp [frsB, z])] at c4; exact c4
                 · rw [cnt_f (by simp [lftB, z])] at c5; exact c5)
              | (have z : memS ms f own ≠ 0 := by omega
                 have z2 : memS ms t (tn w own) = 0 := by rw [e37]; omega
                 refine ih (own + 1) (s + 1) (d + 1) g _ _ (by omega) (by omega) ?_ ?_ ?_
                 · rw [cnt_t (by simp [srcB, z])] at c3; omega
                 · rw [cnt_t (by simp [frsB, z, z2])] at c4; omega
                 · rw [cnt_f (by simp [lftB, z2])] at c5; exact c5)
              | (have z : memS ms f own ≠ 0 := by omega
                 have z2 : memS ms t (tn w own) ≠ 0 := by rw [e37]; omega
                 have z3 : memS ms t (tn w own) = memS ms f own := by rw [e37]; omega
                 refine ih (own + 1) (s + 1) d g _ _ (by omega) (by omega) ?_ ?_ ?_
                 · rw [cnt_t (by simp [srcB, z])] at c3; omega
                 · rw [cnt_f (by simp [frsB, z2])] at c4; exact c4
                 · rw [cnt_f (by simp [lftB, z3])] at c5; exact c5)
              | (have z : memS ms f own ≠ 0 := by omega
                 have z2 : memS ms t (tn w own) ≠ 0 := by rw [e37]; omega
                 have z4 : rpl rp t := by
                   rcases hx88 with ⟨-, h⟩ | ⟨h, -⟩
                   · exact h
                   · omega
                 refine ih (own + 1) (s + 1) d g _ _ (by omega) (by omega) ?_ ?_ ?_
                 · rw [cnt_t (by simp [srcB, z])] at c3; omega
                 · rw [cnt_f (by simp [frsB, z2])] at c4; exact c4
                 · rw [cnt_f (decide_eq_false (fun q => q.2.2.2 z4))] at c5; exact c5)
              | (have z : memS ms f own ≠ 0 := by omega
                 have z2 : memS ms t (tn w own) ≠ 0 := by rw [e37]; omega
                 have z3 : memS ms t (tn w own) ≠ memS ms f own := by rw [e37]; omega
                 have z4 : ¬ rpl rp t := by
                   rcases hx88 with ⟨h, -⟩ | ⟨-, h⟩
                   · omega
                   · exact h
                 refine ih (own + 1) (s + 1) d (g + 1) _ _ (by omega) (by omega) ?_ ?_ ?_
                 · rw [cnt_t (by simp [srcB, z])] at c3; omega
                 · rw [cnt_f (by simp [frsB, z2])] at c4; exact c4
                 · rw [cnt_t (decide_eq_true ⟨z, z2, z3, z4⟩)] at c5; omega)
        · refine g_goto (tgt := 97) hC dX3_copyCodeOfNames_42 (by decide) ?_
          refine g_iinc hC dX3_copyCodeOfNames_97 rfl ?_
          dsimp only [List.set]
          refine g_goto (tgt := 21) hC dX3_copyCodeOfNames_100 (by decide) ?_
          first
          | (have e5 : x10 = F + K - 1 := by omega
             have e6 : x16 = F := by omega
             subst e5 e6
             exact J21 K x16 0 0 0 none none rfl (by omega) (Nat.zero_add _) (Nat.zero_add _) (Nat.zero_add _))
          | (have z : memS ms f own = 0 := by omega
             refine ih (own + 1) s d g _ _ (by omega) (by omega) ?_ ?_ ?_
             · rw [cnt_f (by simp [srcB, z])] at c3; exact c3
             · rw [cnt_f (by simp [frsB, z])] at c4; exact c4
             · rw [cnt_f (by simp [lftB, z])] at c5; exact c5)
          | (have z : memS ms f own ≠ 0 := by omega
             have z2 : memS ms t (tn w own) = 0 := by rw [e37]; omega
             refine ih (own + 1) (s + 1) (d + 1) g _ _ (by omega) (by omega) ?_ ?_ ?_
             · rw [cnt_t (by simp [srcB, z])] at c3; omega
             · rw [cnt_t (by simp [frsB, z, z2])] at c4; omega
             · rw [cnt_f (by simp [lftB, z2])] at c5; exact c5)
          | (have z : memS ms f own ≠ 0 := by omega
             have z2 : memS ms t (tn w own) ≠ 0 := by rw [e37]; omega
             have z3 : memS ms t (tn w own) = memS ms f own := by rw [e37]; omega
             refine ih (own + 1) (s + 1) d g _ _ (by omega) (by omega) ?_ ?_ ?_
             · rw [cnt_t (by simp [srcB, z])] at c3; omega
             · rw [cnt_f (by simp [frsB, z2])] at c4; exact c4
             · rw [cnt_f (by simp [lftB, z3])] at c5; exact c5)
          | (have z : memS ms f own ≠ 0 := by omega
             have z2 : memS ms t (tn w own) ≠ 0 := by rw [e37]; omega
             have z4 : rpl rp t := by
               rcases hx88 with ⟨-, h⟩ | ⟨h, -⟩
               · exact h
               · omega
             refine ih (own + 1) (s + 1) d g _ _ (by omega) (by omega) ?_ ?_ ?_
             · rw [cnt_t (by simp [srcB, z])] at c3; omega
             · rw [cnt_f (by simp [frsB, z2])] at c4; exact c4
             · rw [cnt_f (decide_eq_false (fun q => q.2.2.2 z4))] at c5; exact c5)
          | (have z : memS ms f own ≠ 0 := by omega
             have z2 : memS ms t (tn w own) ≠ 0 := by rw [e37]; omega
             have z3 : memS ms t (tn w own) ≠ memS ms f own := by rw [e37]; omega
             have z4 : ¬ rpl rp t := by
               rcases hx88 with ⟨h, -⟩ | ⟨-, h⟩
               · omega
               · exact h
             refine ih (own + 1) (s + 1) d (g + 1) _ _ (by omega) (by omega) ?_ ?_ ?_
             · rw [cnt_t (by simp [srcB, z])] at c3; omega
             · rw [cnt_f (by simp [frsB, z2])] at c4; exact c4
             · rw [cnt_t (decide_eq_true ⟨z, z2, z3, z4⟩)] at c5; omega)
  refine g_iconst hC dX3_copyCodeOfNames_0 ?_
  refine g_istore hC dX3_copyCodeOfNames_1 (Nat.le_of_ble_eq_true rfl) ?_
  dsimp only [List.set]
  refine g_iconst hC dX3_copyCodeOfNames_3 ?_
  refine g_istore hC dX3_copyCodeOfNames_4 (Nat.le_of_ble_eq_true rfl) ?_
  dsimp only [List.set]
  refine g_iconst hC dX3_copyCodeOfNames_6 ?_
  refine g_istore hC dX3_copyCodeOfNames_7 (Nat.le_of_ble_eq_true rfl) ?_
  dsimp only [List.set]
  refine g_iload_n hC dX3_copyCodeOfNames_9 rfl ?_
  refine g_SP hC (kX3_lastName (gl X) (gD X) (gac X) n ⟨by omega, by omega⟩) csX3_lastName lkX3_54 rfl rfl (Nat.le_of_ble_eq_true rfl) (hI.fit (Nat.le_of_ble_eq_true rfl) (Nat.le_of_ble_eq_true rfl) (Nat.le_of_ble_eq_true rfl)) dX3_copyCodeOfNames_10 (fun x10 hx10 => ?_)
  refine g_istore hC dX3_copyCodeOfNames_13 (Nat.le_of_ble_eq_true rfl) ?_
  dsimp only [List.set]
  refine g_iload_n hC dX3_copyCodeOfNames_15 rfl ?_
  refine g_SP hC (kX3_firstName (gl X) (gD X) (gac X) n ⟨by omega, by omega⟩) csX3_firstName lkX3_58 rfl rfl (Nat.le_of_ble_eq_true rfl) (hI.fit (Nat.le_of_ble_eq_true rfl) (Nat.le_of_ble_eq_true rfl) (Nat.le_of_ble_eq_true rfl)) dX3_copyCodeOfNames_16 (fun x16 hx16 => ?_)
  refine g_istore hC dX3_copyCodeOfNames_19 (Nat.le_of_ble_eq_true rfl) ?_
  dsimp only [List.set]
  first
  | (have e5 : x10 = F + K - 1 := by omega
     have e6 : x16 = F := by omega
     subst e5 e6
     exact J21 K x16 0 0 0 none none rfl (by omega) (Nat.zero_add _) (Nat.zero_add _) (Nat.zero_add _))
  | (have z : memS ms f own = 0 := by omega
     refine ih (own + 1) s d g _ _ (by omega) (by omega) ?_ ?_ ?_
     · rw [cnt_f (by simp [srcB, z])] at c3; exact c3
     · rw [cnt_f (by simp [frsB, z])] at c4; exact c4
     · rw [cnt_f (by simp [lftB, z])] at c5; exact c5)
  | (have z : memS ms f own ≠ 0 := by omega
     have z2 : memS ms t (tn w own) = 0 := by rw [e37]; omega
     refine ih (own + 1) (s + 1) (d + 1) g _ _ (by omega) (by omega) ?_ ?_ ?_
     · rw [cnt_t (by simp [srcB, z])] at c3; omega
     · rw [cnt_t (by simp [frsB, z, z2])] at c4; omega
     · rw [cnt_f (by simp [lftB, z2])] at c5; exact c5)
  | (have z : memS ms f own ≠ 0 := by omega
     have z2 : memS ms t (tn w own) ≠ 0 := by rw [e37]; omega
     have z3 : memS ms t (tn w own) = memS ms f own := by rw [e37]; omega
     refine ih (own + 1) (s + 1) d g _ _ (by omega) (by omega) ?_ ?_ ?_
     · rw [cnt_t (by simp [srcB, z])] at c3; omega
     · rw [cnt_f (by simp [frsB, z2])] at c4; exact c4
     · rw [cnt_f (by simp [lftB, z3])] at c5; exact c5)
  | (have z : memS ms f own ≠ 0 := by omega
     have z2 : memS ms t (tn w own) ≠ 0 := by rw [e37]; omega
     have z4 : rpl rp t := by
       rcases hx88 with ⟨-, h⟩ | ⟨h, -⟩
       · exact h
       · omega
     refine ih (own + 1) (s + 1) d g _ _ (by omega) (by omega) ?_ ?_ ?_
     · rw [cnt_t (by simp [srcB, z])] at c3; omega
     · rw [cnt_f (by simp [frsB, z2])] at c4; exact c4
     · rw [cnt_f (decide_eq_false (fun q => q.2.2.2 z4))] at c5; exact c5)
  | (have z : memS ms f own ≠ 0 := by omega
     have z2 : memS ms t (tn w own) ≠ 0 := by rw [e37]; omega
     have z3 : memS ms t (tn w own) ≠ memS ms f own := by rw [e37]; omega
     have z4 : ¬ rpl rp t := by
       rcases hx88 with ⟨h, -⟩ | ⟨-, h⟩
       · omega
       · exact h
     refine ih (own + 1) (s + 1) d (g + 1) _ _ (by omega) (by omega) ?_ ?_ ?_
     · rw [cnt_t (by simp [srcB, z])] at c3; omega
     · rw [cnt_f (by simp [frsB, z2])] at c4; exact c4
     · rw [cnt_t (decide_eq_true ⟨z, z2, z3, z4⟩)] at c5; omega)
set_option maxHeartbeats 4000000 in
set_option maxRecDepth 100000 in
theorem kX3_copyCode (lc : Launch) (D : va_G) (ac : Nat → ClassId) {sh : Nat → Nat × Nat} {rf : Nat → Nat → Option Nat} {mem : Nat → Nat → Int} (a a0 a1 a2 : Nat) (la l0 l1 l2 : Nat → Nat) (rp : List Int) (ms : List (Option MemT)) (f t n w : Int) (hO : LbO sh rf a a0 a1 a2) (hv : LbV sh rf mem a a0 a1 a2 la l0 l1 l2 rp ms) (h_p : inR f) (h_q : inR t) (h_n : inR n) (h_w : inR w) : gMet lc D ac mX3_copyCode 3 [.ref a, .int (iI f), .int (iI t), .int (iI n), .int (iI w)] 0 0 sh rf mem (pP sh rf mem (fun r => r = cpC rp ms f t n w)) := by
  refine gMet.mk (by decide) (by intro v hv; simp at hv; (try rcases hv with rfl | rfl | rfl | rfl | rfl) <;> rfl) (Nat.le_of_ble_eq_true rfl) (fun X hC hI => ?_)
  show gG X sh rf mem 0 0 0 [some (.ref a), some (.int (iI f)), some (.int (iI t)), some (.int (iI n)), some (.int (iI w))] []
  have hO9 := hO
  have hv9 := hv
  obtain ⟨n1, n2, n3, n4, n5, n6⟩ := hO.ne
  obtain ⟨ho, hr0, hr1, hr2, hs0, hs1, hs2⟩ := hO
  obtain ⟨v1, v2, v3, v4, v5, v6, v7, v8, v9⟩ := hv
  have i_p := h_p
  obtain ⟨p1, p2⟩ := h_p
  have i_q := h_q
  obtain ⟨q1, q2⟩ := h_q
  have i_n := h_n
  obtain ⟨n1, n2⟩ := h_n
  have i_w := h_w
  obtain ⟨w1, w2⟩ := h_w
  refine g_aload_n hC dX3_copyCode_0 rfl ?_
  refine g_iload_n hC dX3_copyCode_1 rfl ?_
  refine g_VP hC (kX3_hasLibrary (gl X) (gD X) (gac X) a a0 a1 a2 la l0 l1 l2 rp ms f hO9 hv9 i_p) cvX3_hasLibrary lkX3_32 (by assumption) rfl rfl (Nat.le_of_ble_eq_true rfl) (hI.fit (Nat.le_of_ble_eq_true rfl) (Nat.le_of_ble_eq_true rfl) (Nat.le_of_ble_eq_true rfl)) dX3_copyCode_2 (fun x2 hx2 => ?_)
  refine g_if_eq (tgt := 16) hC dX3_copyCode_5 (by decide) ⟨by omega, by omega⟩ (fun h5 => ?_) (fun h5 => ?_)
  · refine g_bipush hC dX3_copyCode_16 (by decide +kernel) ?_
    refine g_iret hC hI rfl dX3_copyCode_18 (Nat.le_of_ble_eq_true rfl) (Nat.le_of_ble_eq_true rfl) ⟨rfl, rfl, rfl, _, rfl, ?_⟩
    rw [cpC, if_pos (by omega)]
  · refine g_aload_n hC dX3_copyCode_8 rfl ?_
    refine g_iload_n hC dX3_copyCode_9 rfl ?_
    refine g_VP hC (kX3_hasLibrary (gl X) (gD X) (gac X) a a0 a1 a2 la l0 l1 l2 rp ms t hO9 hv9 i_q) cvX3_hasLibrary lkX3_32 (by assumption) rfl rfl (Nat.le_of_ble_eq_true rfl) (hI.fit (Nat.le_of_ble_eq_true rfl) (Nat.le_of_ble_eq_true rfl) (Nat.le_of_ble_eq_true rfl)) dX3_copyCode_10 (fun x10 hx10 => ?_)
    refine g_if_ne (tgt := 19) hC dX3_copyCode_13 (by decide) ⟨by omega, by omega⟩ (fun h13 => ?_) (fun h13 => ?_)
    · refine g_iload_n hC dX3_copyCode_19 rfl ?_
      refine g_SP hC (kX3_isNameOrNone (gl X) (gD X) (gac X) n i_n) csX3_isNameOrNone lkX3_44 rfl rfl (Nat.le_of_ble_eq_true rfl) (hI.fit (Nat.le_of_ble_eq_true rfl) (Nat.le_of_ble_eq_true rfl) (Nat.le_of_ble_eq_true rfl)) dX3_copyCode_20 (fun x20 hx20 => ?_)
      refine g_if_eq (tgt := 34) hC dX3_copyCode_23 (by decide) ⟨by omega, by omega⟩ (fun h23 => ?_) (fun h23 => ?_)
      · refine g_bipush hC dX3_copyCode_34 (by decide +kernel) ?_
        refine g_iret hC hI rfl dX3_copyCode_36 (Nat.le_of_ble_eq_true rfl) (Nat.le_of_ble_eq_true rfl) ⟨rfl, rfl, rfl, _, rfl, ?_⟩
        rw [cpC, if_neg (by omega), if_pos (by omega)]
      · refine g_iload hC dX3_copyCode_26 rfl ?_
        refine g_SP hC (kX3_isNameOrNone (gl X) (gD X) (gac X) w i_w) csX3_isNameOrNone lkX3_44 rfl rfl (Nat.le_of_ble_eq_true rfl) (hI.fit (Nat.le_of_ble_eq_true rfl) (Nat.le_of_ble_eq_true rfl) (Nat.le_of_ble_eq_true rfl)) dX3_copyCode_28 (fun x28 hx28 => ?_)
        refine g_if_ne (tgt := 37) hC dX3_copyCode_31 (by decide) ⟨by omega, by omega⟩ (fun h31 => ?_) (fun h31 => ?_)
        · refine g_aload_n hC dX3_copyCode_37 rfl ?_
          refine g_iload_n hC dX3_copyCode_38 rfl ?_
          refine g_iload_n hC dX3_copyCode_39 rfl ?_
          refine g_iload_n hC dX3_copyCode_40 rfl ?_
          refine g_iload hC dX3_copyCode_41 rfl ?_
          refine g_VP hC (kX3_copyCodeOfNames (gl X) (gD X) (gac X) a a0 a1 a2 la l0 l1 l2 rp ms f t n w hO9 hv9 i_p i_q (by omega) (by omega)) cvX3_copyCodeOfNames lkX3_47 (by assumption) rfl rfl (Nat.le_of_ble_eq_true rfl) (hI.fit (Nat.le_of_ble_eq_true rfl) (Nat.le_of_ble_eq_true rfl) (Nat.le_of_ble_eq_true rfl)) dX3_copyCode_43 (fun x43 hx43 => ?_)
          refine g_iret hC hI rfl dX3_copyCode_46 (Nat.le_of_ble_eq_true rfl) (Nat.le_of_ble_eq_true rfl) ⟨rfl, rfl, rfl, _, rfl, ?_⟩
          rw [cpC, if_neg (by omega), if_neg (by omega)]; exact hx43
        · refine g_bipush hC dX3_copyCode_34 (by decide +kernel) ?_
          refine g_iret hC hI rfl dX3_copyCode_36 (Nat.le_of_ble_eq_true rfl) (Nat.le_of_ble_eq_true rfl) ⟨rfl, rfl, rfl, _, rfl, ?_⟩
          rw [cpC, if_neg (by omega), if_pos (by omega)]
    · refine g_bipush hC dX3_copyCode_16 (by decide +kernel) ?_
      refine g_iret hC hI rfl dX3_copyCode_18 (Nat.le_of_ble_eq_true rfl) (Nat.le_of_ble_eq_true rfl) ⟨rfl, rfl, rfl, _, rfl, ?_⟩
      rw [cpC, if_pos (by omega)]
set_option maxHeartbeats 4000000 in
set_option maxRecDepth 100000 in
theorem kX3_moveCode (lc : Launch) (D : va_G) (ac : Nat → ClassId) {sh : Nat → Nat × Nat} {rf : Nat → Nat → Option Nat} {mem : Nat → Nat → Int} (a a0 a1 a2 : Nat) (la l0 l1 l2 : Nat → Nat) (rp : List Int) (ms : List (Option MemT)) (f t n w : Int) (hO : LbO sh rf a a0 a1 a2) (hv : LbV sh rf mem a a0 a1 a2 la l0 l1 l2 rp ms) (h_p : inR f) (h_q : inR t) (h_n : inR n) (h_w : inR w) : gMet lc D ac mX3_moveCode 4 [.ref a, .int (iI f), .int (iI t), .int (iI n), .int (iI w)] 0 0 sh rf mem (pP sh rf mem (fun r => r = mvC rp ms f t n w)) := by
  refine gMet.mk (by decide) (by intro v hv; simp at hv; (try rcases hv with rfl | rfl | rfl | rfl | rfl) <;> rfl) (Nat.le_of_ble_eq_true rfl) (fun X hC hI => ?_)
  show gG X sh rf mem 0 0 0 [some (.ref a), some (.int (iI f)), some (.int (iI t)), some (.int (iI n)), some (.int (iI w))] []
  have hO9 := hO
  have hv9 := hv
  obtain ⟨n1, n2, n3, n4, n5, n6⟩ := hO.ne
  obtain ⟨ho, hr0, hr1, hr2, hs0, hs1, hs2⟩ := hO
  obtain ⟨v1, v2, v3, v4, v5, v6, v7, v8, v9⟩ := hv
  have i_p := h_p
  obtain ⟨p1, p2⟩ := h_p
  have i_q := h_q
  obtain ⟨q1, q2⟩ := h_q
  have i_n := h_n
  obtain ⟨n1, n2⟩ := h_n
  have i_w := h_w
  obtain ⟨w1, w2⟩ := h_w
  refine g_aload_n hC dX3_moveCode_0 rfl ?_
  refine g_iload_n hC dX3_moveCode_1 rfl ?_
  refine g_VP hC (kX3_hasLibrary (gl X) (gD X) (gac X) a a0 a1 a2 la l0 l1 l2 rp ms f hO9 hv9 i_p) cvX3_hasLibrary lkX3_32 (by assumption) rfl rfl (Nat.le_of_ble_eq_true rfl) (hI.fit (Nat.le_of_ble_eq_true rfl) (Nat.le_of_ble_eq_true rfl) (Nat.le_of_ble_eq_true rfl)) dX3_moveCode_2 (fun x2 hx2 => ?_)
  refine g_if_eq (tgt := 24) hC dX3_moveCode_5 (by decide) ⟨by omega, by omega⟩ (fun h5 => ?_) (fun h5 => ?_)
  · refine g_aload_n hC dX3_moveCode_24 rfl ?_
    refine g_iload_n hC dX3_moveCode_25 rfl ?_
    refine g_iload_n hC dX3_moveCode_26 rfl ?_
    refine g_iload_n hC dX3_moveCode_27 rfl ?_
    refine g_iload hC dX3_moveCode_28 rfl ?_
    refine g_VP hC (kX3_copyCode (gl X) (gD X) (gac X) a a0 a1 a2 la l0 l1 l2 rp ms f t n w hO9 hv9 i_p i_q i_n i_w) cvX3_copyCode lkX3_51 (by assumption) rfl rfl (Nat.le_of_ble_eq_true rfl) (hI.fit (Nat.le_of_ble_eq_true rfl) (Nat.le_of_ble_eq_true rfl) (Nat.le_of_ble_eq_true rfl)) dX3_moveCode_30 (fun x30 hx30 => ?_)
    refine g_iret hC hI rfl dX3_moveCode_33 (Nat.le_of_ble_eq_true rfl) (Nat.le_of_ble_eq_true rfl) ⟨rfl, rfl, rfl, _, rfl, ?_⟩
    rw [mvC, if_neg (by omega)]; exact hx30
  · refine g_aload_n hC dX3_moveCode_8 rfl ?_
    refine g_iload_n hC dX3_moveCode_9 rfl ?_
    refine g_VP hC (kX3_hasLibrary (gl X) (gD X) (gac X) a a0 a1 a2 la l0 l1 l2 rp ms t hO9 hv9 i_q) cvX3_hasLibrary lkX3_32 (by assumption) rfl rfl (Nat.le_of_ble_eq_true rfl) (hI.fit (Nat.le_of_ble_eq_true rfl) (Nat.le_of_ble_eq_true rfl) (Nat.le_of_ble_eq_true rfl)) dX3_moveCode_10 (fun x10 hx10 => ?_)
    refine g_if_eq (tgt := 24) hC dX3_moveCode_13 (by decide) ⟨by omega, by omega⟩ (fun h13 => ?_) (fun h13 => ?_)
    · refine g_aload_n hC dX3_moveCode_24 rfl ?_
      refine g_iload_n hC dX3_moveCode_25 rfl ?_
      refine g_iload_n hC dX3_moveCode_26 rfl ?_
      refine g_iload_n hC dX3_moveCode_27 rfl ?_
      refine g_iload hC dX3_moveCode_28 rfl ?_
      refine g_VP hC (kX3_copyCode (gl X) (gD X) (gac X) a a0 a1 a2 la l0 l1 l2 rp ms f t n w hO9 hv9 i_p i_q i_n i_w) cvX3_copyCode lkX3_51 (by assumption) rfl rfl (Nat.le_of_ble_eq_true rfl) (hI.fit (Nat.le_of_ble_eq_true rfl) (Nat.le_of_ble_eq_true rfl) (Nat.le_of_ble_eq_true rfl)) dX3_moveCode_30 (fun x30 hx30 => ?_)
      refine g_iret hC hI rfl dX3_moveCode_33 (Nat.le_of_ble_eq_true rfl) (Nat.le_of_ble_eq_true rfl) ⟨rfl, rfl, rfl, _, rfl, ?_⟩
      rw [mvC, if_neg (by omega)]; exact hx30
    · refine g_iload_n hC dX3_moveCode_16 rfl ?_
      refine g_iconst hC dX3_moveCode_17 ?_
      refine g_icmp_ne (tgt := 24) hC dX3_moveCode_18 (by decide) ⟨by omega, by omega⟩ ⟨by omega, by omega⟩ (fun h18 => ?_) (fun h18 => ?_)
      · refine g_aload_n hC dX3_moveCode_24 rfl ?_
        refine g_iload_n hC dX3_moveCode_25 rfl ?_
        refine g_iload_n hC dX3_moveCode_26 rfl ?_
        refine g_iload_n hC dX3_moveCode_27 rfl ?_
        refine g_iload hC dX3_moveCode_28 rfl ?_
        refine g_VP hC (kX3_copyCode (gl X) (gD X) (gac X) a a0 a1 a2 la l0 l1 l2 rp ms f t n w hO9 hv9 i_p i_q i_n i_w) cvX3_copyCode lkX3_51 (by assumption) rfl rfl (Nat.le_of_ble_eq_true rfl) (hI.fit (Nat.le_of_ble_eq_true rfl) (Nat.le_of_ble_eq_true rfl) (Nat.le_of_ble_eq_true rfl)) dX3_moveCode_30 (fun x30 hx30 => ?_)
        refine g_iret hC hI rfl dX3_moveCode_33 (Nat.le_of_ble_eq_true rfl) (Nat.le_of_ble_eq_true rfl) ⟨rfl, rfl, rfl, _, rfl, ?_⟩
        rw [mvC, if_neg (by omega)]; exact hx30
      · refine g_bipush hC dX3_moveCode_21 (by decide +kernel) ?_
        refine g_iret hC hI rfl dX3_moveCode_23 (Nat.le_of_ble_eq_true rfl) (Nat.le_of_ble_eq_true rfl) ⟨rfl, rfl, rfl, _, rfl, ?_⟩
        rw [mvC, if_pos (by omega)]
set_option maxHeartbeats 4000000 in
set_option maxRecDepth 100000 in
theorem kX3_init (lc : Launch) (D : va_G) (ac : Nat → ClassId) {sh : Nat → Nat × Nat} {rf : Nat → Nat → Option Nat} {mem : Nat → Nat → Int} (a : Nat) (ho : sh a = (3, 0)) (hz : mem a = fun _ => 0) : gMet lc D ac mX3_init 1 [.ref a] 3 686 sh rf mem (pU (fun sh1 rf1 mem1 => ∃ a0 a1 a2, (sh a0).1 = 0 ∧ (sh a1).1 = 0 ∧ (sh a2).1 = 0 ∧ LbO sh1 rf1 a a0 a1 a2 ∧ (∀ la l0 l1 l2, LbV sh1 rf1 mem1 a a0 a1 a2 la l0 l1 l2 [] []) ∧ (∀ b, b ≠ a0 → b ≠ a1 → b ≠ a2 → sh1 b = sh b) ∧ (∀ b, b ≠ a → b ≠ a0 → b ≠ a1 → b ≠ a2 → rf1 b = rf b) ∧ (∀ b, b ≠ a0 → b ≠ a1 → b ≠ a2 → mem1 b = mem b))) := by
  refine gMet.mk (by decide) (by intro v hv; simp at hv; (try rcases hv with rfl) <;> rfl) (Nat.le_of_ble_eq_true rfl) (fun X hC hI => ?_)
  show gG X sh rf mem 0 0 0 [some (.ref a)] []
  refine g_aload_n hC dX3_init_0 rfl ?_
  refine g_objInit hC lkX3_3 oi_in oi_co (by rw [hI.rm]; exact (Nat.le_of_ble_eq_true rfl)) (by rw [hI.rm]; exact (Nat.le_of_ble_eq_true rfl)) dX3_init_1 ?_
  refine g_aload_n hC dX3_init_4 rfl ?_
  refine g_bipush hC dX3_init_5 (by decide +kernel) ?_
  refine g_newaN (atype := .boolean) 6 hC arr_boolean rfl (Or.inr (Or.inr ⟨rfl, rfl, rfl⟩)) rfl (by decide) (by rw [hI.rm]; exact (Nat.le_of_ble_eq_true rfl)) (by rw [hI.rm]; exact (Nat.le_of_ble_eq_true rfl)) dX3_init_7 (fun q7 sh7 rf7 mem7 hq7 esh7 erf7 emem7 => ?_)
  have ho7 := sh_keep esh7 hq7 ho (by decide)
  have s7 := sh_new esh7
  have z7 := sh_ne hq7 ho (by decide)
  refine g_putR hC fdX3_9 hI.nm (fun C T N h => by cases h; rfl) (by assumption) rfl rfl dX3_init_9 ?_
  refine g_aload_n hC dX3_init_12 rfl ?_
  refine g_bipush hC dX3_init_13 (by decide +kernel) ?_
  refine g_newqN 80 hC clX3_15 (Or.inl ⟨rfl, rfl⟩) rfl (by decide) (by rw [hI.rm]; exact (Nat.le_of_ble_eq_true rfl)) (by rw [hI.rm]; exact (Nat.le_of_ble_eq_true rfl)) dX3_init_15 (fun q15 sh15 rf15 mem15 hq15 esh15 erf15 emem15 => ?_)
  have ho15 := sh_keep esh15 hq15 ho7 (by decide)
  have s15 := sh_new esh15
  have t15 := sh_keep esh15 hq15 s7 (by decide)
  have z15 := sh_ne hq15 ho7 (by decide)
  have y15 := sh_ne hq15 s7 (by decide)
  refine g_putR hC fdX3_17 hI.nm (fun C T N h => by cases h; rfl) (by assumption) rfl rfl dX3_init_18 ?_
  refine g_aload_n hC dX3_init_21 rfl ?_
  refine g_sipush hC dX3_init_22 (by decide +kernel) ?_
  refine g_newaN (atype := .int) 600 hC arr_int rfl (Or.inr (Or.inl ⟨rfl, rfl, rfl⟩)) rfl (by decide) (by rw [hI.rm]; exact (Nat.le_of_ble_eq_true rfl)) (by rw [hI.rm]; exact (Nat.le_of_ble_eq_true rfl)) dX3_init_25 (fun q25 sh25 rf25 mem25 hq25 esh25 erf25 emem25 => ?_)
  have ho25 := sh_keep esh25 hq25 ho15 (by decide)
  have s25 := sh_new esh25
  have t25 := sh_keep esh25 hq25 t15 (by decide)
  have u25 := sh_keep esh25 hq25 s15 (by decide)
  have z25 := sh_ne hq25 ho15 (by decide)
  have y25 := sh_ne hq25 t15 (by decide)
  have w25 := sh_ne hq25 s15 (by decide)
  refine g_putR hC fdX3_21 hI.nm (fun C T N h => by cases h; rfl) (by assumption) rfl rfl dX3_init_27 ?_
  refine g_vret hC hI rfl dX3_init_30 (Nat.le_of_ble_eq_true rfl) (Nat.le_of_ble_eq_true rfl) ⟨rfl, ?_⟩
  have e15 : (sh q15).1 = 0 := by rw [esh7, va_up_ne _ _ y15.symm] at hq15; exact hq15
  have e25 : (sh q25).1 = 0 := by rw [esh15, va_up_ne _ _ w25.symm, esh7, va_up_ne _ _ y25.symm] at hq25; exact hq25
  refine ⟨q7, q15, q25, hq7, e15, e25, ⟨ho25, ?_, ?_, gur_s _ _ _ _, t25, u25, s25⟩, fun la l0 l1 l2 => ⟨?_, Nat.zero_le _, ?_, Nat.zero_le _, fun i hi => absurd hi (Nat.not_lt_zero i), fun i hi => absurd hi (Nat.not_lt_zero i), fun i j hi => absurd hi (Nat.not_lt_zero i), fun l n _ _ _ _ => ?_, fun i j l n h => absurd (hnIs_lt h) (Nat.not_lt_zero i)⟩, fun b h1 h2 h3 => ?_, fun b h1 h2 h3 h4 => ?_, fun b h1 h2 h3 => ?_⟩
  · rw [gur_k _ _ _ _ (by decide), erf25, va_up_ne _ _ z25, gur_k _ _ _ _ (by decide), erf15, va_up_ne _ _ z15, gur_s]
  · rw [gur_k _ _ _ _ (by decide), erf25, va_up_ne _ _ z25, gur_s]
  · rw [emem25, va_up_ne _ _ z25, emem15, va_up_ne _ _ z15, emem7, va_up_ne _ _ z7, hz]; rfl
  · rw [emem25, va_up_ne _ _ z25, emem15, va_up_ne _ _ z15, emem7, va_up_ne _ _ z7, hz]; rfl
  · rw [emem25, va_up_self]; rfl
  · rw [esh25, va_up_ne _ _ h3, esh15, va_up_ne _ _ h2, esh7, va_up_ne _ _ h1]
  · funext j
    rw [gur_a _ _ _ _ h1, erf25, va_up_ne _ _ h4, gur_a _ _ _ _ h1, erf15, va_up_ne _ _ h3, gur_a _ _ _ _ h1, erf7, va_up_ne _ _ h2]
  · rw [emem25, va_up_ne _ _ h3, emem15, va_up_ne _ _ h2, emem7, va_up_ne _ _ h1]
