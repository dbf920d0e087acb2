/-! the class's calls: what they answer and leave -/
def libR (rp : List Int) : Int := if rp.length < 6 then rp.length + 1 else -1
def libS (rp : List Int) (v : Int) : List Int := if rp.length < 6 then rp ++ [v] else rp
def nmM (n : Int) : Prop := 0 ≤ n ∧ n < 100
def mbrR (rp : List Int) (ms : List (Option MemT)) (l n : Int) : Int := if ¬ (1 ≤ l ∧ l ≤ rp.length) then -2 else if ¬ (0 ≤ n ∧ n < 100) then -4 else if memS ms l n ≠ 0 then -5 else if ms.length < 80 then ms.length + 1 else -1
def mbrS (rp : List Int) (ms : List (Option MemT)) (l n : Int) : List (Option MemT) := if (1 ≤ l ∧ l ≤ rp.length) ∧ (0 ≤ n ∧ n < 100) ∧ memS ms l n = 0 ∧ ms.length < 80 then ms ++ [some (l, n, [])] else ms
def linS (ms : List (Option MemT)) (m n c : Int) : List (Option MemT) := match memAt ms m with
  | none => ms
  | some q => if (1 ≤ n ∧ n ≤ 9999) ∧ (32 ≤ c ∧ c ≤ 126) then ms.set (m - 1).toNat (some (q.1, q.2.1, lnSign q.2.2 n c)) else ms
def stG (g c : Int) : Int := if c < 0 then g else if g < c then c else g
def stZ (y z c : Int) : Int := if 0 ≤ c ∧ y = 1 then z + 1 else z
def dz (y c : Int) : Prop := 0 ≤ c ∧ y = 0 ∧ (c = 0 ∨ c = 4)
def cpyS (rp : List Int) (ms : List (Option MemT)) (f t n w y : Int) : List (Option MemT) := if y = 0 ∧ (cpC rp ms f t n w = 0 ∨ cpC rp ms f t n w = 4) then cpN rp f t w (nK n) (nF n) ms else ms
def movS (rp : List Int) (ms : List (Option MemT)) (f t n w y : Int) : List (Option MemT) := if y = 0 ∧ mvC rp ms f t n w = 0 then mvS rp ms f t n w else ms
section SP
variable {G : Nat → Prop} {sh sh1 : Nat → Nat × Nat} {rf rf1 : Nat → Nat → Option Nat} {mem mem1 : Nat → Nat → Int} {x : Nat} {A la l0 l1 l2 sa ra : Nat → Nat} {rp ex ar : List Int} {ms : List (Option MemT)} {ss : List (Option SetT)} {ch : Lns} {ds : Dfs} {lk : Nat} {g y z : Int}
theorem cpC_le (f t n w : Int) : -4 ≤ cpC rp ms f t n w ∧ cpC rp ms f t n w ≤ 12 := by
  unfold cpC cpC0
  split
  · omega
  · split
    · omega
    · split
      · omega
      · split
        · omega
        · split <;> omega
theorem mvC_le (f t n w : Int) : -4 ≤ mvC rp ms f t n w ∧ mvC rp ms f t n w ≤ 12 := by
  unfold mvC
  split
  · omega
  · exact cpC_le f t n w
theorem cpC_ok {f t n w : Int} (h : cpC rp ms f t n w = 0 ∨ cpC rp ms f t n w = 4) : (1 ≤ f ∧ f ≤ rp.length) ∧ (1 ≤ t ∧ t ≤ rp.length) ∧ (n = -1 ∨ (0 ≤ n ∧ n < 100)) ∧ (w = -1 ∨ (0 ≤ w ∧ w < 100)) ∧ cnt (srcB ms f) (nK n) (nF n) ≠ 0 ∧ (w ≠ -1 → cnt (srcB ms f) (nK n) (nF n) = 1) ∧ ms.length + cnt (frsB ms f t w) (nK n) (nF n) ≤ 80 ∧ (cpC rp ms f t n w = 0 → cnt (lftB rp ms f t w) (nK n) (nF n) = 0) := by
  unfold cpC at h ⊢
  by_cases h1 : (1 ≤ f ∧ f ≤ rp.length) ∧ 1 ≤ t ∧ t ≤ rp.length
  · rw [if_neg (fun q => q h1)] at h ⊢
    by_cases h2 : (n = -1 ∨ (0 ≤ n ∧ n < 100)) ∧ (w = -1 ∨ (0 ≤ w ∧ w < 100))
    · rw [if_neg (fun q => q h2)] at h ⊢
      unfold cpC0 at h ⊢
      by_cases h3 : cnt (srcB ms f) (nK n) (nF n) = 0 ∨ (w ≠ -1 ∧ 1 < cnt (srcB ms f) (nK n) (nF n))
      · rw [if_pos h3] at h; omega
      · rw [if_neg h3] at h ⊢
        by_cases h4 : 80 < ms.length + cnt (frsB ms f t w) (nK n) (nF n)
        · rw [if_pos h4] at h; omega
        · rw [if_neg h4] at h ⊢
          refine ⟨h1.1, h1.2, h2.1, h2.2, by omega, by omega, by omega, fun q => ?_⟩
          by_cases h5 : 0 < cnt (lftB rp ms f t w) (nK n) (nF n)
          · rw [if_pos h5] at q; omega
          · omega
    · rw [if_pos h2] at h; omega
  · rw [if_pos h1] at h; omega
theorem mvC_ok {f t n w : Int} (h : mvC rp ms f t n w = 0) : cpC rp ms f t n w = 0 ∧ n ≠ -1 := by
  unfold mvC at h
  by_cases h1 : (1 ≤ f ∧ f ≤ rp.length) ∧ (1 ≤ t ∧ t ≤ rp.length) ∧ n = -1
  · rw [if_pos h1] at h; omega
  · rw [if_neg h1] at h
    have q := cpC_ok (Or.inl h)
    exact ⟨h, fun e => h1 ⟨q.1, q.2.1, e⟩⟩
theorem opStep {c r : Int} (h : WXa G sh rf mem x A la l0 l1 l2 sa ra rp ms ss ch ds lk ex ar g y z) (hc : c ≤ 12) (hx : (c < 0 ∧ r = 0 ∧ mem1 = mem) ∨ (0 ≤ c ∧ mem (A 19) 1 = 1 ∧ r = 0 ∧ mem1 = gup (gup mem (A 19) 0 (if mem (A 19) 0 < c then c else mem (A 19) 0)) (A 19) 2 (mem (A 19) 2 + 1)) ∨ (0 ≤ c ∧ mem (A 19) 1 = 0 ∧ ((r = 1 ∧ (c = 0 ∨ c = 4)) ∨ (r = 0 ∧ ¬ (c = 0 ∨ c = 4))) ∧ mem1 = gup mem (A 19) 0 (if mem (A 19) 0 < c then c else mem (A 19) 0))) : (WXa G sh rf mem1 x A la l0 l1 l2 sa ra rp ms ss ch ds lk ex ar (stG g c) y (stZ y z c) ∧ ∀ b, G b → Un sh rf mem sh rf mem1 b) ∧ ((r = 1 ∧ dz y c) ∨ (r = 0 ∧ ¬ dz y c)) := by
  have hh := h
  obtain ⟨-, -, -, -, -, -, -, ⟨s1, s2, s3, s4, s5, s6, s7⟩, -⟩ := hh
  rw [s2, s3, s4] at hx
  have eg : 0 ≤ (if g < c then c else g) ∧ (if g < c then c else g) ≤ 12 := by split <;> omega
  rcases hx with ⟨c1, c2, c3⟩ | ⟨c1, c2, c3, c4⟩ | ⟨c1, c2, c3, c4⟩
  · subst c3
    rw [stG, if_pos c1, stZ, if_neg (by omega)]
    exact ⟨⟨h, fun b _ => Un.rf0⟩, Or.inr ⟨c2, fun q => by unfold dz at q; omega⟩⟩
  · have E1 : stG g c = if g < c then c else g := if_neg (by omega)
    have E2 : stZ y z c = z + 1 := if_pos ⟨c1, c2⟩
    rw [E1, E2]
    refine ⟨opS h ⟨s1, ?_, ?_, ?_, eg.1, eg.2, s7⟩ (fun b hb => ?_), Or.inr ⟨c3, fun q => by unfold dz at q; omega⟩⟩
    · rw [c4, gup_k _ _ _ _ (by decide), gup_s]
    · rw [c4, gup_k _ _ _ _ (by decide), gup_k _ _ _ _ (by decide)]; exact s3
    · rw [c4, gup_s]
    · rw [c4]; funext j; rw [gup_a _ _ _ _ hb, gup_a _ _ _ _ hb]
  · have E1 : stG g c = if g < c then c else g := if_neg (by omega)
    have E2 : stZ y z c = z := if_neg (by omega)
    rw [E1, E2]
    refine ⟨opS h ⟨s1, ?_, ?_, ?_, eg.1, eg.2, s7⟩ (fun b hb => ?_), ?_⟩
    · rw [c4, gup_s]
    · rw [c4, gup_k _ _ _ _ (by decide)]; exact s3
    · rw [c4, gup_k _ _ _ _ (by decide)]; exact s4
    · rw [c4]; funext j; rw [gup_a _ _ _ _ hb]
    · unfold dz
      omega
theorem linS_none {m n c : Int} (e : memAt ms m = none) : linS ms m n c = ms := by rw [linS, e]
theorem linS_no {m n c : Int} {q : MemT} (e : memAt ms m = some q) (h : ¬ ((1 ≤ n ∧ n ≤ 9999) ∧ (32 ≤ c ∧ c ≤ 126))) : linS ms m n c = ms := by rw [linS, e]; exact if_neg h
theorem linS_yes {m n c : Int} {q : MemT} (e : memAt ms m = some q) (h : (1 ≤ n ∧ n ≤ 9999) ∧ (32 ≤ c ∧ c ≤ 126)) : linS ms m n c = ms.set (m - 1).toNat (some (q.1, q.2.1, lnSign q.2.2 n c)) := by rw [linS, e]; exact if_pos h
end SP
set_option maxHeartbeats 4000000 in
set_option maxRecDepth 100000 in
theorem kX9_library (lc : Launch) (D : va_G) (ac : Nat → ClassId) {sh : Nat → Nat × Nat} {rf : Nat → Nat → Option Nat} {mem : Nat → Nat → Int} (G : Nat → Prop) (x : Nat) (A la l0 l1 l2 sa ra : Nat → Nat) (rp ex ar : List Int) (ms : List (Option MemT)) (ss : List (Option SetT)) (ch : Lns) (ds : Dfs) (lk : Nat) (g y z : Int) (v : Int) (hW : WXa G sh rf mem x A la l0 l1 l2 sa ra rp ms ss ch ds lk ex ar g y z) (hp : v = 0 ∨ v = 1) : gMet lc D ac mX9_library 6 [.ref x, .int (iI v)] 0 0 sh rf mem (pA (fun r sh1 rf1 mem1 => r = libR rp ∧ WN G sh rf mem sh1 rf1 mem1 x A (libS rp v) ms ss ch ds lk ex ar g y z)) := by
  refine gMet.mk (by decide) (by intro v hv; simp at hv; (try rcases hv with rfl | rfl) <;> rfl) (Nat.le_of_ble_eq_true rfl) (fun X hC hI => ?_)
  show gG X sh rf mem 0 0 0 [some (.ref x), some (.int (iI v))] []
  have hW9 := hW
  obtain ⟨⟨ho, r0, r1, r2, r3, r4, r5, r6⟩, ⟨hL, hLv⟩, hR, ⟨hCt, hCo, hCi, hCv⟩, ⟨hMo, hMv, hMl, hMk⟩, ⟨hEo, hEv⟩, ⟨hAo, hAv⟩, ⟨hSo, hS0, hS1, hS2, hSg, hSh, hSy⟩, hD, hG⟩ := hW
  have hLo := hL.1
  have hRo := hR.1
  have hTo := hCt.1
  have hMo1 := hMo.1
  have hEo1 := hEo.1
  have hAo1 := hAo.1
  refine g_aload_n hC dX9_library_0 rfl ?_
  refine g_getR hC fdX9_10 (by assumption) (by assumption) dX9_library_1 ?_
  refine g_iload_n hC dX9_library_4 rfl ?_
  refine g_VM hC (kX3_addLibrary (gl X) (gD X) (gac X) (A 0) (A 1) (A 2) (A 3) la l0 l1 l2 rp ms v hL hLv hp) cvX3_addLibrary lkX9_54 (by assumption) rfl rfl (Nat.le_of_ble_eq_true rfl) (hI.fit (Nat.le_of_ble_eq_true rfl) (Nat.le_of_ble_eq_true rfl) (Nat.le_of_ble_eq_true rfl)) dX9_library_5 (fun x5 mem5 hx5 => ?_)
  refine g_iret hC hI rfl dX9_library_8 (Nat.le_of_ble_eq_true rfl) (Nat.le_of_ble_eq_true rfl) ⟨_, rfl, ?_⟩
  rcases hx5 with ⟨h1, rfl, rfl⟩ | ⟨h1, rfl, h3⟩
  · rw [libR, libS, if_neg (by omega), if_neg (by omega)]
    exact ⟨rfl, WN.of ⟨hW9, fun b hb => Un.rf0⟩⟩
  · rw [libR, libS, if_pos h1, if_pos h1]
    obtain ⟨k1, k2⟩ := LbV_lib hL hLv h1 hp h3
    exact ⟨rfl, WN.of (opL hW9 hL k1 k2 (fun i hi => Or.inl ⟨i, hi, rfl, rfl, rfl, rfl⟩))⟩
set_option maxHeartbeats 4000000 in
set_option maxRecDepth 100000 in
theorem kX9_member (lc : Launch) (D : va_G) (ac : Nat → ClassId) {sh : Nat → Nat × Nat} {rf : Nat → Nat → Option Nat} {mem : Nat → Nat → Int} (G : Nat → Prop) (x : Nat) (A la l0 l1 l2 sa ra : Nat → Nat) (rp ex ar : List Int) (ms : List (Option MemT)) (ss : List (Option SetT)) (ch : Lns) (ds : Dfs) (lk : Nat) (g y z : Int) (l n : Int) (hW : WXa G sh rf mem x A la l0 l1 l2 sa ra rp ms ss ch ds lk ex ar g y z) (h_p : inR l) (h_q : inR n) : gMet lc D ac mX9_member 6 [.ref x, .int (iI l), .int (iI n)] 4 364 sh rf mem (pA (fun r sh1 rf1 mem1 => r = mbrR rp ms l n ∧ WN G sh rf mem sh1 rf1 mem1 x A rp (mbrS rp ms l n) ss ch ds lk ex ar g y z)) := by
  refine gMet.mk (by decide) (by intro v hv; simp at hv; (try rcases hv with rfl | rfl | rfl) <;> rfl) (Nat.le_of_ble_eq_true rfl) (fun X hC hI => ?_)
  show gG X sh rf mem 0 0 0 [some (.ref x), some (.int (iI l)), some (.int (iI n))] []
  have hW9 := hW
  obtain ⟨⟨ho, r0, r1, r2, r3, r4, r5, r6⟩, ⟨hL, hLv⟩, hR, ⟨hCt, hCo, hCi, hCv⟩, ⟨hMo, hMv, hMl, hMk⟩, ⟨hEo, hEv⟩, ⟨hAo, hAv⟩, ⟨hSo, hS0, hS1, hS2, hSg, hSh, hSy⟩, hD, hG⟩ := hW
  have hLo := hL.1
  have hRo := hR.1
  have hTo := hCt.1
  have hMo1 := hMo.1
  have hEo1 := hEo.1
  have hAo1 := hAo.1
  have i_p := h_p
  obtain ⟨p1, p2⟩ := h_p
  have i_q := h_q
  obtain ⟨q1, q2⟩ := h_q
  have le1 := memS_le l n ms
  have le2 := hLv.2.2.2.1
  refine g_aload_n hC dX9_member_0 rfl ?_
  refine g_getR hC fdX9_10 (by assumption) (by assumption) dX9_member_1 ?_
  refine g_iload_n hC dX9_member_4 rfl ?_
  refine g_VP hC (kX3_hasLibrary (gl X) (gD X) (gac X) (A 0) (A 1) (A 2) (A 3) la l0 l1 l2 rp ms l hL hLv i_p) cvX3_hasLibrary lkX9_58 (by assumption) rfl rfl (Nat.le_of_ble_eq_true rfl) (hI.fit (Nat.le_of_ble_eq_true rfl) (Nat.le_of_ble_eq_true rfl) (Nat.le_of_ble_eq_true rfl)) dX9_member_5 (fun x5 hx5 => ?_)
  refine g_if_ne (tgt := 14) hC dX9_member_8 (by decide) ⟨by omega, by omega⟩ (fun h8 => ?_) (fun h8 => ?_)
  · refine g_iload_n hC dX9_member_14 rfl ?_
    refine g_SP hC (kX9_isName (gl X) (gD X) (gac X) n i_q) csX9_isName lkX9_62 rfl rfl (Nat.le_of_ble_eq_true rfl) (hI.fit (Nat.le_of_ble_eq_true rfl) (Nat.le_of_ble_eq_true rfl) (Nat.le_of_ble_eq_true rfl)) dX9_member_15 (fun x15 hx15 => ?_)
    refine g_if_ne (tgt := 24) hC dX9_member_18 (by decide) ⟨by omega, by omega⟩ (fun h18 => ?_) (fun h18 => ?_)
    · refine g_aload_n hC dX9_member_24 rfl ?_
      refine g_getR hC fdX9_10 (by assumption) (by assumption) dX9_member_25 ?_
      refine g_iload_n hC dX9_member_28 rfl ?_
      refine g_iload_n hC dX9_member_29 rfl ?_
      refine g_VP hC (kX3_numberOf (gl X) (gD X) (gac X) (A 0) (A 1) (A 2) (A 3) la l0 l1 l2 rp ms l n hL hLv i_p i_q) cvX3_numberOf lkX9_65 (by assumption) rfl rfl (Nat.le_of_ble_eq_true rfl) (hI.fit (Nat.le_of_ble_eq_true rfl) (Nat.le_of_ble_eq_true rfl) (Nat.le_of_ble_eq_true rfl)) dX9_member_30 (fun x30 hx30 => ?_)
      subst hx30
      refine g_if_eq (tgt := 39) hC dX9_member_33 (by decide) ⟨by omega, by omega⟩ (fun h33 => ?_) (fun h33 => ?_)
      · refine g_aload_n hC dX9_member_39 rfl ?_
        refine g_getR hC fdX9_10 (by assumption) (by assumption) dX9_member_40 ?_
        refine g_iload_n hC dX9_member_43 rfl ?_
        refine g_iload_n hC dX9_member_44 rfl ?_
        refine g_VA hC (kX3_addMember (gl X) (gD X) (gac X) (A 0) (A 1) (A 2) (A 3) la l0 l1 l2 rp ms l n hL hLv i_p i_q (by omega)) cvX3_addMember lkX9_69 (by assumption) rfl rfl (Nat.le_of_ble_eq_true rfl) (hI.fit (Nat.le_of_ble_eq_true rfl) (Nat.le_of_ble_eq_true rfl) (Nat.le_of_ble_eq_true rfl)) dX9_member_45 (fun x45 sh45 rf45 mem45 hx45 => ?_)
        refine g_iret hC hI rfl dX9_member_48 (Nat.le_of_ble_eq_true rfl) (Nat.le_of_ble_eq_true rfl) ⟨_, rfl, ?_⟩
        rw [mbrR, if_neg (by omega), if_neg (by omega), if_neg (by omega)]
        rcases hx45 with ⟨h1, rfl, rfl, rfl, rfl⟩ | ⟨h1, rfl, s, s0, s1, s2, hN⟩
        · rw [if_neg (by omega), mbrS, if_neg (by omega)]
          exact ⟨rfl, WN.of ⟨hW9, fun b hb => Un.rf0⟩⟩
        · rw [if_pos h1.1, mbrS, if_pos (by omega)]
          exact ⟨rfl, WN.of (opL hW9 hN.1 hN.2.1 hN.2.2.1 hN.2.2.2)⟩
      · refine g_bipush hC dX9_member_36 (by decide +kernel) ?_
        refine g_iret hC hI rfl dX9_member_38 (Nat.le_of_ble_eq_true rfl) (Nat.le_of_ble_eq_true rfl) ⟨_, rfl, ?_⟩
        rw [mbrR, if_neg (by omega), if_neg (by omega), if_pos (by omega), mbrS, if_neg (by omega)]
        exact ⟨rfl, WN.of ⟨hW9, fun b hb => Un.rf0⟩⟩
    · refine g_bipush hC dX9_member_21 (by decide +kernel) ?_
      refine g_iret hC hI rfl dX9_member_23 (Nat.le_of_ble_eq_true rfl) (Nat.le_of_ble_eq_true rfl) ⟨_, rfl, ?_⟩
      rw [mbrR, if_neg (by omega), if_pos (by omega), mbrS, if_neg (by omega)]
      exact ⟨rfl, WN.of ⟨hW9, fun b hb => Un.rf0⟩⟩
  · refine g_bipush hC dX9_member_11 (by decide +kernel) ?_
    refine g_iret hC hI rfl dX9_member_13 (Nat.le_of_ble_eq_true rfl) (Nat.le_of_ble_eq_true rfl) ⟨_, rfl, ?_⟩
    rw [mbrR, if_pos (by omega), mbrS, if_neg (by omega)]
    exact ⟨rfl, WN.of ⟨hW9, fun b hb => Un.rf0⟩⟩
set_option maxHeartbeats 4000000 in
set_option maxRecDepth 100000 in
theorem kX9_line (lc : Launch) (D : va_G) (ac : Nat → ClassId) {sh : Nat → Nat × Nat} {rf : Nat → Nat → Option Nat} {mem : Nat → Nat → Int} (G : Nat → Prop) (x : Nat) (A la l0 l1 l2 sa ra : Nat → Nat) (rp ex ar : List Int) (ms : List (Option MemT)) (ss : List (Option SetT)) (ch : Lns) (ds : Dfs) (lk : Nat) (g y z : Int) (m n c : Int) (hW : WXa G sh rf mem x A la l0 l1 l2 sa ra rp ms ss ch ds lk ex ar g y z) (h_p : inR m) (h_q : inR n) (h_r : inR c) : gMet lc D ac mX9_line 6 [.ref x, .int (iI m), .int (iI n), .int (iI c)] 0 0 sh rf mem (pU (fun sh1 rf1 mem1 => WN G sh rf mem sh1 rf1 mem1 x A rp (linS ms m n c) ss ch ds lk ex ar g y z)) := by
  refine gMet.mk (by decide) (by intro v hv; simp at hv; (try rcases hv with rfl | rfl | rfl | rfl) <;> rfl) (Nat.le_of_ble_eq_true rfl) (fun X hC hI => ?_)
  show gG X sh rf mem 0 0 0 [some (.ref x), some (.int (iI m)), some (.int (iI n)), some (.int (iI c)), none] []
  have hW9 := hW
  obtain ⟨⟨ho, r0, r1, r2, r3, r4, r5, r6⟩, ⟨hL, hLv⟩, hR, ⟨hCt, hCo, hCi, hCv⟩, ⟨hMo, hMv, hMl, hMk⟩, ⟨hEo, hEv⟩, ⟨hAo, hAv⟩, ⟨hSo, hS0, hS1, hS2, hSg, hSh, hSy⟩, hD, hG⟩ := hW
  have hLo := hL.1
  have hRo := hR.1
  have hTo := hCt.1
  have hMo1 := hMo.1
  have hEo1 := hEo.1
  have hAo1 := hAo.1
  have i_p := h_p
  obtain ⟨p1, p2⟩ := h_p
  have i_q := h_q
  obtain ⟨q1, q2⟩ := h_q
  have i_r := h_r
  obtain ⟨rr1, rr2⟩ := h_r
  refine g_aload_n hC dX9_line_0 rfl ?_
  refine g_getR hC fdX9_10 (by assumption) (by assumption) dX9_line_1 ?_
  refine g_iload_n hC dX9_line_4 rfl ?_
  refine g_VR hC (kX3_linesOf (gl X) (gD X) (gac X) (A 0) (A 1) (A 2) (A 3) la l0 l1 l2 rp ms m hL hLv i_p) cvX3_linesOf lkX9_72 (by assumption) rfl rfl (Nat.le_of_ble_eq_true rfl) (hI.fit (Nat.le_of_ble_eq_true rfl) (Nat.le_of_ble_eq_true rfl) (Nat.le_of_ble_eq_true rfl)) dX9_line_5 (fun x5 hx5 => ?_)
  rcases e5 : memAt ms (m) with _ | y5
  · rw [e5] at hx5
    subst hx5
    refine g_astoreN hC dX9_line_8 (Nat.le_of_ble_eq_true rfl) ?_
    dsimp only [List.set]
    refine g_aloadN hC dX9_line_10 rfl ?_
    refine g_ifnullN (tgt := 36) hC dX9_line_12 (by decide) ?_
    refine g_vret hC hI rfl dX9_line_36 (Nat.le_of_ble_eq_true rfl) (Nat.le_of_ble_eq_true rfl) ⟨rfl, ?_⟩
    first
    | (rw [linS_none e5]
       exact WN.of ⟨hW9, fun b hb => Un.rf0⟩)
    | (rw [linS_no e5 (by omega)]
       exact WN.of ⟨hW9, fun b hb => Un.rf0⟩)
    | (rw [linS_yes e5 (by omega)]
       have K := LbN.set hL hLv (memAt_some e5).2.2 hx33.1 hx33.2.1 hx33.2.2
       exact WN.of (opL hW9 K.1 K.2.1 K.2.2.1 K.2.2.2))
  · rw [e5] at hx5
    subst hx5
    obtain ⟨O5, I5, V5⟩ := LbV.at hLv e5
    have o5 := O5.1
    refine g_astore hC dX9_line_8 (Nat.le_of_ble_eq_true rfl) ?_
    dsimp only [List.set]
    refine g_aload hC dX9_line_10 rfl ?_
    refine g_ifnullR hC dX9_line_12 ?_
    refine g_iload_n hC dX9_line_15 rfl ?_
    refine g_SP hC (kX9_isLineNumber (gl X) (gD X) (gac X) n i_q) csX9_isLineNumber lkX9_76 rfl rfl (Nat.le_of_ble_eq_true rfl) (hI.fit (Nat.le_of_ble_eq_true rfl) (Nat.le_of_ble_eq_true rfl) (Nat.le_of_ble_eq_true rfl)) dX9_line_16 (fun x16 hx16 => ?_)
    refine g_if_eq (tgt := 36) hC dX9_line_19 (by decide) ⟨by omega, by omega⟩ (fun h19 => ?_) (fun h19 => ?_)
    · refine g_vret hC hI rfl dX9_line_36 (Nat.le_of_ble_eq_true rfl) (Nat.le_of_ble_eq_true rfl) ⟨rfl, ?_⟩
      first
      | (rw [linS_none e5]
         exact WN.of ⟨hW9, fun b hb => Un.rf0⟩)
      | (rw [linS_no e5 (by omega)]
         exact WN.of ⟨hW9, fun b hb => Un.rf0⟩)
      | (rw [linS_yes e5 (by omega)]
         have K := LbN.set hL hLv (memAt_some e5).2.2 hx33.1 hx33.2.1 hx33.2.2
         exact WN.of (opL hW9 K.1 K.2.1 K.2.2.1 K.2.2.2))
    · refine g_iload_n hC dX9_line_22 rfl ?_
      refine g_SP hC (kX9_isSign (gl X) (gD X) (gac X) c i_r) csX9_isSign lkX9_79 rfl rfl (Nat.le_of_ble_eq_true rfl) (hI.fit (Nat.le_of_ble_eq_true rfl) (Nat.le_of_ble_eq_true rfl) (Nat.le_of_ble_eq_true rfl)) dX9_line_23 (fun x23 hx23 => ?_)
      refine g_if_eq (tgt := 36) hC dX9_line_26 (by decide) ⟨by omega, by omega⟩ (fun h26 => ?_) (fun h26 => ?_)
      · refine g_vret hC hI rfl dX9_line_36 (Nat.le_of_ble_eq_true rfl) (Nat.le_of_ble_eq_true rfl) ⟨rfl, ?_⟩
        first
        | (rw [linS_none e5]
           exact WN.of ⟨hW9, fun b hb => Un.rf0⟩)
        | (rw [linS_no e5 (by omega)]
           exact WN.of ⟨hW9, fun b hb => Un.rf0⟩)
        | (rw [linS_yes e5 (by omega)]
           have K := LbN.set hL hLv (memAt_some e5).2.2 hx33.1 hx33.2.1 hx33.2.2
           exact WN.of (opL hW9 K.1 K.2.1 K.2.2.1 K.2.2.2))
      · refine g_aload hC dX9_line_29 rfl ?_
        refine g_iload_n hC dX9_line_31 rfl ?_
        refine g_iload_n hC dX9_line_32 rfl ?_
        refine g_VV hC (kX4_addSignTo (gl X) (gD X) (gac X) _ _ _ _ y5.2.2 n c O5 I5 V5 (by omega) (by omega)) cvX4_addSignTo lkX9_82 (by assumption) rfl rfl (Nat.le_of_ble_eq_true rfl) (hI.fit (Nat.le_of_ble_eq_true rfl) (Nat.le_of_ble_eq_true rfl) (Nat.le_of_ble_eq_true rfl)) dX9_line_33 (fun mem33 hx33 => ?_)
        refine g_vret hC hI rfl dX9_line_36 (Nat.le_of_ble_eq_true rfl) (Nat.le_of_ble_eq_true rfl) ⟨rfl, ?_⟩
        first
        | (rw [linS_none e5]
           exact WN.of ⟨hW9, fun b hb => Un.rf0⟩)
        | (rw [linS_no e5 (by omega)]
           exact WN.of ⟨hW9, fun b hb => Un.rf0⟩)
        | (rw [linS_yes e5 (by omega)]
           have K := LbN.set hL hLv (memAt_some e5).2.2 hx33.1 hx33.2.1 hx33.2.2
           exact WN.of (opL hW9 K.1 K.2.1 K.2.2.1 K.2.2.2))
set_option maxHeartbeats 4000000 in
set_option maxRecDepth 100000 in
theorem kX9_copy (lc : Launch) (D : va_G) (ac : Nat → ClassId) {sh : Nat → Nat × Nat} {rf : Nat → Nat → Option Nat} {mem : Nat → Nat → Int} (G : Nat → Prop) (x : Nat) (A la l0 l1 l2 sa ra : Nat → Nat) (rp ex ar : List Int) (ms : List (Option MemT)) (ss : List (Option SetT)) (ch : Lns) (ds : Dfs) (lk : Nat) (g y z : Int) (f t n w : Int) (hW : WXa G sh rf mem x A la l0 l1 l2 sa ra rp ms ss ch ds lk ex ar g y z) (h_f : inR f) (h_t : inR t) (h_n : inR n) (h_w : inR w) : gMet lc D ac mX9_copy 6 [.ref x, .int (iI f), .int (iI t), .int (iI n), .int (iI w)] (4 * ((cpyS rp ms f t n w y).length - ms.length)) (364 * ((cpyS rp ms f t n w y).length - ms.length)) sh rf mem (pA (fun r sh1 rf1 mem1 => r = cpC rp ms f t n w ∧ WN G sh rf mem sh1 rf1 mem1 x A rp (cpyS rp ms f t n w y) ss ch ds lk ex ar (stG g (cpC rp ms f t n w)) y (stZ y z (cpC rp ms f t n w)))) := by
  refine gMet.mk (by decide) (by intro v hv; simp at hv; (try rcases hv with rfl | rfl | rfl | rfl | rfl) <;> rfl) (Nat.le_of_ble_eq_true rfl) (fun X hC hI => ?_)
  show gG X sh rf mem 0 0 0 [some (.ref x), some (.int (iI f)), some (.int (iI t)), some (.int (iI n)), some (.int (iI w)), none] []
  have hW9 := hW
  obtain ⟨⟨ho, r0, r1, r2, r3, r4, r5, r6⟩, ⟨hL, hLv⟩, hR, ⟨hCt, hCo, hCi, hCv⟩, ⟨hMo, hMv, hMl, hMk⟩, ⟨hEo, hEv⟩, ⟨hAo, hAv⟩, ⟨hSo, hS0, hS1, hS2, hSg, hSh, hSy⟩, hD, hG⟩ := hW
  have hLo := hL.1
  have hRo := hR.1
  have hTo := hCt.1
  have hMo1 := hMo.1
  have hEo1 := hEo.1
  have hAo1 := hAo.1
  have i_f := h_f
  obtain ⟨f1, f2⟩ := h_f
  have i_t := h_t
  obtain ⟨t1, t2⟩ := h_t
  have i_n := h_n
  obtain ⟨n1, n2⟩ := h_n
  have i_w := h_w
  obtain ⟨w1, w2⟩ := h_w
  have cle := cpC_le (rp := rp) (ms := ms) f t n w
  refine g_aload_n hC dX9_copy_0 rfl ?_
  refine g_getR hC fdX9_10 (by assumption) (by assumption) dX9_copy_1 ?_
  refine g_iload_n hC dX9_copy_4 rfl ?_
  refine g_iload_n hC dX9_copy_5 rfl ?_
  refine g_iload_n hC dX9_copy_6 rfl ?_
  refine g_iload hC dX9_copy_7 rfl ?_
  refine g_VP hC (kX3_copyCode (gl X) (gD X) (gac X) (A 0) (A 1) (A 2) (A 3) la l0 l1 l2 rp ms f t n w hL hLv i_f i_t i_n i_w) cvX3_copyCode lkX9_88 (by assumption) rfl rfl (Nat.le_of_ble_eq_true rfl) (hI.fit (Nat.le_of_ble_eq_true rfl) (Nat.zero_le _) (Nat.zero_le _)) dX9_copy_9 (fun x9 hx9 => ?_)
  subst hx9
  refine g_istore hC dX9_copy_12 (Nat.le_of_ble_eq_true rfl) ?_
  dsimp only [List.set]
  refine g_aload_n hC dX9_copy_14 rfl ?_
  refine g_getR hC fdX9_50 (by assumption) (by assumption) dX9_copy_15 ?_
  refine g_iload hC dX9_copy_18 rfl ?_
  refine g_VM hC (kX8_carriesOut (gl X) (gD X) (gac X) (A 19) _ hSo ⟨by omega, by omega, by omega⟩ ⟨by omega, by omega⟩) cvX8_carriesOut lkX9_92 (by assumption) rfl rfl (Nat.le_of_ble_eq_true rfl) (hI.fit (Nat.le_of_ble_eq_true rfl) (Nat.zero_le _) (Nat.zero_le _)) dX9_copy_20 (fun x20 mem20 hx20 => ?_)
  obtain ⟨⟨hW2, hK2⟩, hr20⟩ := opStep hW9 cle.2 hx20
  refine g_if_eq (tgt := 38) hC dX9_copy_23 (by decide) ⟨by omega, by omega⟩ (fun h23 => ?_) (fun h23 => ?_)
  · refine g_iload hC dX9_copy_38 rfl ?_
    refine g_iret hC hI rfl dX9_copy_40 (by first | exact Nat.zero_le _ | (rw [e35]; exact Nat.le_of_eq (Nat.zero_add _))) (by first | exact Nat.zero_le _ | (rw [e35]; exact Nat.le_of_eq (Nat.zero_add _))) ⟨_, rfl, ?_⟩
    first
    | (obtain ⟨ka, k0, k1, k2, hN⟩ := hx35
       rw [e35]
       exact ⟨rfl, WN.of2 hK2 (opL hW2 hN.1 hN.2.1 hN.2.2.1 hN.2.2.2)⟩)
    | (have q20 : ¬ dz y (cpC rp ms f t n w) := by
         rcases hr20 with ⟨w, -⟩ | ⟨-, w⟩
         · omega
         · exact w
       have e35 : cpyS rp ms f t n w y = ms := by
         rw [cpyS, if_neg]
         rintro ⟨w1, w2⟩
         exact q20 ⟨by omega, w1, w2⟩
       rw [e35]
       exact ⟨rfl, WN.of ⟨hW2, hK2⟩⟩)
  · have q20 : dz y (cpC rp ms f t n w) := by
      rcases hr20 with ⟨-, w⟩ | ⟨w, -⟩
      · exact w
      · omega
    have q35 := cpC_ok q20.2.2
    have e35 : cpyS rp ms f t n w y = cpN rp f t w (nK n) (nF n) ms := by rw [cpyS, if_pos ⟨q20.2.1, q20.2.2⟩]
    refine g_aload_n hC dX9_copy_26 rfl ?_
    refine g_getR hC fdX9_10 (by assumption) (by assumption) dX9_copy_27 ?_
    refine g_iload_n hC dX9_copy_30 rfl ?_
    refine g_iload_n hC dX9_copy_31 rfl ?_
    refine g_iload_n hC dX9_copy_32 rfl ?_
    refine g_iload hC dX9_copy_33 rfl ?_
    refine g_VU hC (kX3_copyMembers (gl X) (gD X) (gac X) (A 0) (A 1) (A 2) (A 3) la l0 l1 l2 rp ms f t n w hL hW2.2.1.2 i_f q35.2.1 q35.2.2.1 q35.2.2.2.1 q35.2.2.2.2.2.2.1) cvX3_copyMembers lkX9_95 (by assumption) rfl rfl (Nat.le_of_ble_eq_true rfl) (hI.fit (Nat.le_of_ble_eq_true rfl) (by rw [e35]; exact Nat.le_of_eq (Nat.zero_add _)) (by rw [e35]; exact Nat.le_of_eq (Nat.zero_add _))) dX9_copy_35 (fun sh35 rf35 mem35 hx35 => ?_)
    refine g_iload hC dX9_copy_38 rfl ?_
    refine g_iret hC hI rfl dX9_copy_40 (by first | exact Nat.zero_le _ | (rw [e35]; exact Nat.le_of_eq (Nat.zero_add _))) (by first | exact Nat.zero_le _ | (rw [e35]; exact Nat.le_of_eq (Nat.zero_add _))) ⟨_, rfl, ?_⟩
    first
    | (obtain ⟨ka, k0, k1, k2, hN⟩ := hx35
       rw [e35]
       exact ⟨rfl, WN.of2 hK2 (opL hW2 hN.1 hN.2.1 hN.2.2.1 hN.2.2.2)⟩)
    | (have q20 : ¬ dz y (cpC rp ms f t n w) := by
         rcases hr20 with ⟨w, -⟩ | ⟨-, w⟩
         · omega
         · exact w
       have e35 : cpyS rp ms f t n w y = ms := by
         rw [cpyS, if_neg]
         rintro ⟨w1, w2⟩
         exact q20 ⟨by omega, w1, w2⟩
       rw [e35]
       exact ⟨rfl, WN.of ⟨hW2, hK2⟩⟩)
set_option maxHeartbeats 4000000 in
set_option maxRecDepth 100000 in
theorem kX9_move (lc : Launch) (D : va_G) (ac : Nat → ClassId) {sh : Nat → Nat × Nat} {rf : Nat → Nat → Option Nat} {mem : Nat → Nat → Int} (G : Nat → Prop) (x : Nat) (A la l0 l1 l2 sa ra : Nat → Nat) (rp ex ar : List Int) (ms : List (Option MemT)) (ss : List (Option SetT)) (ch : Lns) (ds : Dfs) (lk : Nat) (g y z : Int) (f t n w : Int) (hW : WXa G sh rf mem x A la l0 l1 l2 sa ra rp ms ss ch ds lk ex ar g y z) (h_f : inR f) (h_t : inR t) (h_n : inR n) (h_w : inR w) : gMet lc D ac mX9_move 6 [.ref x, .int (iI f), .int (iI t), .int (iI n), .int (iI w)] (4 * ((movS rp ms f t n w y).length - ms.length)) (364 * ((movS rp ms f t n w y).length - ms.length)) sh rf mem (pA (fun r sh1 rf1 mem1 => r = mvC rp ms f t n w ∧ WN G sh rf mem sh1 rf1 mem1 x A rp (movS rp ms f t n w y) ss ch ds lk ex ar (stG g (mvC rp ms f t n w)) y (stZ y z (mvC rp ms f t n w)))) := by
  refine gMet.mk (by decide) (by intro v hv; simp at hv; (try rcases hv with rfl | rfl | rfl | rfl | rfl) <;> rfl) (Nat.le_of_ble_eq_true rfl) (fun X hC hI => ?_)
  show gG X sh rf mem 0 0 0 [some (.ref x), some (.int (iI f)), some (.int (iI t)), some (.int (iI n)), some (.int (iI w)), none] []
  have hW9 := hW
  obtain ⟨⟨ho, r0, r1, r2, r3, r4, r5, r6⟩, ⟨hL, hLv⟩, hR, ⟨hCt, hCo, hCi, hCv⟩, ⟨hMo, hMv, hMl, hMk⟩, ⟨hEo, hEv⟩, ⟨hAo, hAv⟩, ⟨hSo, hS0, hS1, hS2, hSg, hSh, hSy⟩, hD, hG⟩ := hW
  have hLo := hL.1
  have hRo := hR.1
  have hTo := hCt.1
  have hMo1 := hMo.1
  have hEo1 := hEo.1
  have hAo1 := hAo.1
  have i_f := h_f
  obtain ⟨f1, f2⟩ := h_f
  have i_t := h_t
  obtain ⟨t1, t2⟩ := h_t
  have i_n := h_n
  obtain ⟨n1, n2⟩ := h_n
  have i_w := h_w
  obtain ⟨w1, w2⟩ := h_w
  have cle := mvC_le (rp := rp) (ms := ms) f t n w
  refine g_aload_n hC dX9_move_0 rfl ?_
  refine g_getR hC fdX9_10 (by assumption) (by assumption) dX9_move_1 ?_
  refine g_iload_n hC dX9_move_4 rfl ?_
  refine g_iload_n hC dX9_move_5 rfl ?_
  refine g_iload_n hC dX9_move_6 rfl ?_
  refine g_iload hC dX9_move_7 rfl ?_
  refine g_VP hC (kX3_moveCode (gl X) (gD X) (gac X) (A 0) (A 1) (A 2) (A 3) la l0 l1 l2 rp ms f t n w hL hLv i_f i_t i_n i_w) cvX3_moveCode lkX9_99 (by assumption) rfl rfl (Nat.le_of_ble_eq_true rfl) (hI.fit (Nat.le_of_ble_eq_true rfl) (Nat.zero_le _) (Nat.zero_le _)) dX9_move_9 (fun x9 hx9 => ?_)
  subst hx9
  refine g_istore hC dX9_move_12 (Nat.le_of_ble_eq_true rfl) ?_
  dsimp only [List.set]
  refine g_aload_n hC dX9_move_14 rfl ?_
  refine g_getR hC fdX9_50 (by assumption) (by assumption) dX9_move_15 ?_
  refine g_iload hC dX9_move_18 rfl ?_
  refine g_VM hC (kX8_carriesOut (gl X) (gD X) (gac X) (A 19) _ hSo ⟨by omega, by omega, by omega⟩ ⟨by omega, by omega⟩) cvX8_carriesOut lkX9_92 (by assumption) rfl rfl (Nat.le_of_ble_eq_true rfl) (hI.fit (Nat.le_of_ble_eq_true rfl) (Nat.zero_le _) (Nat.zero_le _)) dX9_move_20 (fun x20 mem20 hx20 => ?_)
  obtain ⟨⟨hW2, hK2⟩, hr20⟩ := opStep hW9 cle.2 hx20
  refine g_if_eq (tgt := 43) hC dX9_move_23 (by decide) ⟨by omega, by omega⟩ (fun h23 => ?_) (fun h23 => ?_)
  · refine g_iload hC dX9_move_43 rfl ?_
    refine g_iret hC hI rfl dX9_move_45 (by first | exact Nat.zero_le _ | (rw [e35]; exact Nat.le_of_eq (Nat.zero_add _))) (by first | exact Nat.zero_le _ | (rw [e35]; exact Nat.le_of_eq (Nat.zero_add _))) ⟨_, rfl, ?_⟩
    first
    | (obtain ⟨ka, k0, k1, k2, hN⟩ := hx40
       rw [e35]
       exact ⟨rfl, WN.of2 hK2 (opL hW2 hN.1 hN.2.1 hN.2.2.1 hN.2.2.2)⟩)
    | (have e35 : movS rp ms f t n w y = ms := by
         rw [movS, if_neg]
         rintro ⟨w1, w2⟩
         rcases hr20 with ⟨u1, u2⟩ | ⟨u1, u2⟩
         · omega
         · exact u2 ⟨by omega, w1, Or.inl w2⟩
       rw [e35]
       exact ⟨rfl, WN.of ⟨hW2, hK2⟩⟩)
  · refine g_iload hC dX9_move_26 rfl ?_
    refine g_if_ne (tgt := 43) hC dX9_move_28 (by decide) ⟨by omega, by omega⟩ (fun h28 => ?_) (fun h28 => ?_)
    · refine g_iload hC dX9_move_43 rfl ?_
      refine g_iret hC hI rfl dX9_move_45 (by first | exact Nat.zero_le _ | (rw [e35]; exact Nat.le_of_eq (Nat.zero_add _))) (by first | exact Nat.zero_le _ | (rw [e35]; exact Nat.le_of_eq (Nat.zero_add _))) ⟨_, rfl, ?_⟩
      first
      | (obtain ⟨ka, k0, k1, k2, hN⟩ := hx40
         rw [e35]
         exact ⟨rfl, WN.of2 hK2 (opL hW2 hN.1 hN.2.1 hN.2.2.1 hN.2.2.2)⟩)
      | (have e35 : movS rp ms f t n w y = ms := by
           rw [movS, if_neg]
           rintro ⟨w1, w2⟩
           rcases hr20 with ⟨u1, u2⟩ | ⟨u1, u2⟩
           · omega
           · exact u2 ⟨by omega, w1, Or.inl w2⟩
         rw [e35]
         exact ⟨rfl, WN.of ⟨hW2, hK2⟩⟩)
    · have q20 : dz y (mvC rp ms f t n w) := by
        rcases hr20 with ⟨-, w⟩ | ⟨w, -⟩
        · exact w
        · omega
      obtain ⟨q34, q33⟩ := mvC_ok (rp := rp) (ms := ms) (f := f) (t := t) (n := n) (w := w) (by omega)
      have q35 := cpC_ok (Or.inl q34)
      have rm9 : memS ms f n ≠ 0 → memS ms t (tn w n) = 0 → ms.length < 80 := by
        have u := q35.2.2.2.2.2.2.1
        rw [nK, nF, if_neg q33, if_neg q33] at u
        exact frs_room u
      have e35 : movS rp ms f t n w y = mvS rp ms f t n w := by rw [movS, if_pos ⟨q20.2.1, by omega⟩]
      refine g_aload_n hC dX9_move_31 rfl ?_
      refine g_getR hC fdX9_10 (by assumption) (by assumption) dX9_move_32 ?_
      refine g_iload_n hC dX9_move_35 rfl ?_
      refine g_iload_n hC dX9_move_36 rfl ?_
      refine g_iload_n hC dX9_move_37 rfl ?_
      refine g_iload hC dX9_move_38 rfl ?_
      refine g_VU hC (kX3_moveMember (gl X) (gD X) (gac X) (A 0) (A 1) (A 2) (A 3) la l0 l1 l2 rp ms f t n w hL hW2.2.1.2 i_f q35.2.1 (by omega) q35.2.2.2.1 rm9) cvX3_moveMember lkX9_102 (by assumption) rfl rfl (Nat.le_of_ble_eq_true rfl) (hI.fit (Nat.le_of_ble_eq_true rfl) (by rw [e35]; exact Nat.le_of_eq (Nat.zero_add _)) (by rw [e35]; exact Nat.le_of_eq (Nat.zero_add _))) dX9_move_40 (fun sh40 rf40 mem40 hx40 => ?_)
      refine g_iload hC dX9_move_43 rfl ?_
      refine g_iret hC hI rfl dX9_move_45 (by first | exact Nat.zero_le _ | (rw [e35]; exact Nat.le_of_eq (Nat.zero_add _))) (by first | exact Nat.zero_le _ | (rw [e35]; exact Nat.le_of_eq (Nat.zero_add _))) ⟨_, rfl, ?_⟩
      first
      | (obtain ⟨ka, k0, k1, k2, hN⟩ := hx40
         rw [e35]
         exact ⟨rfl, WN.of2 hK2 (opL hW2 hN.1 hN.2.1 hN.2.2.1 hN.2.2.2)⟩)
      | (have e35 : movS rp ms f t n w y = ms := by
           rw [movS, if_neg]
           rintro ⟨w1, w2⟩
           rcases hr20 with ⟨u1, u2⟩ | ⟨u1, u2⟩
           · omega
           · exact u2 ⟨by omega, w1, Or.inl w2⟩
         rw [e35]
         exact ⟨rfl, WN.of ⟨hW2, hK2⟩⟩)
