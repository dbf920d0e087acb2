section M8
variable {ms : List (Option MemT)} {rp : List Int}
theorem mvC_one {f t n w : Int} (h1 : (1 ≤ f ∧ f ≤ rp.length) ∧ 1 ≤ t ∧ t ≤ rp.length) (h2 : (0 ≤ n ∧ n < 100) ∧ (w = -1 ∨ (0 ≤ w ∧ w < 100))) (h3 : ms.length ≤ 80) : mvC rp ms f t n w = if memS ms f n = 0 then 8 else if memS ms t (tn w n) = 0 ∧ ms.length = 80 then 12 else (if memS ms t (tn w n) ≠ memS ms f n ∧ memS ms t (tn w n) ≠ 0 ∧ ¬ rpl rp t then (4 : Int) else 0) := by
  have hn : n ≠ -1 := by omega
  have e1 : mvC rp ms f t n w = cpC0 rp ms f t n w := by
    rw [mvC, if_neg (fun q => hn q.2.2), cpC, if_neg (fun q => q h1), if_neg (fun q => q ⟨Or.inr h2.1, h2.2⟩)]
  have c : ∀ p : Int → Bool, cnt p (nK n) (nF n) = if p n = true then 1 else 0 := by
    intro p
    rw [nK, nF, if_neg hn, if_neg hn]
    rfl
  rw [e1, cpC0, c, c, c]
  by_cases s0 : memS ms f n = 0
  · have b1 : srcB ms f n = false := by simp [srcB, s0]
    rw [b1, if_pos s0]
    exact if_pos (Or.inl rfl)
  · have b1 : srcB ms f n = true := by simp [srcB, s0]
    rw [b1, if_neg s0, if_pos rfl, if_neg (show ¬ ((1 : Nat) = 0 ∨ (w ≠ -1 ∧ 1 < 1)) by omega)]
    by_cases t0 : memS ms t (tn w n) = 0
    · have b2 : frsB ms f t w n = true := by simp [frsB, s0, t0]
      have b3 : lftB rp ms f t w n = false := by simp [lftB, t0]
      rw [b2, b3, if_pos rfl]
      by_cases l8 : ms.length = 80
      · rw [if_pos (show 80 < ms.length + 1 by omega), if_pos ⟨t0, l8⟩]
      · rw [if_neg (show ¬ (80 < ms.length + 1) by omega), if_neg (show ¬ ((0 : Nat) < if false = true then 1 else 0) by simp), if_neg (show ¬ (memS ms t (tn w n) = 0 ∧ ms.length = 80) from fun q => l8 q.2), if_neg (show ¬ (memS ms t (tn w n) ≠ memS ms f n ∧ memS ms t (tn w n) ≠ 0 ∧ ¬ rpl rp t) from fun q => q.2.1 t0)]
    · have b2 : frsB ms f t w n = false := by simp [frsB, t0]
      rw [b2, if_neg (show ¬ (false = true) by simp), if_neg (show ¬ (80 < ms.length + 0) by omega), if_neg (show ¬ (memS ms t (tn w n) = 0 ∧ ms.length = 80) from fun q => t0 q.1)]
      by_cases b3 : lftB rp ms f t w n = true
      · obtain ⟨z1, z2, z3, z4⟩ := lft_iff.mp b3
        rw [b3, if_pos (show (memS ms t (tn w n) ≠ memS ms f n ∧ memS ms t (tn w n) ≠ 0 ∧ ¬ rpl rp t) from ⟨z3, z2, z4⟩)]
        rfl
      · have b4 : lftB rp ms f t w n = false := by rw [Bool.not_eq_true] at b3; exact b3
        rw [b4, if_neg (show ¬ (memS ms t (tn w n) ≠ memS ms f n ∧ memS ms t (tn w n) ≠ 0 ∧ ¬ rpl rp t) from fun q => b3 (lft_iff.mpr ⟨s0, q.2.1, q.1, q.2.2⟩))]
        rfl
theorem memS_cp1 {f n t k : Int} (h : ¬ (f = t ∧ n = k)) : memS (cp1 rp ms f n t k) f n = memS ms f n := by
  unfold cp1
  split
  · rfl
  · split
    · next q2 => rw [memS_app (y := (t, k, lnsAt ms (memS ms f n))) f n q2, if_neg h]
    · next q2 =>
      obtain ⟨x, x1, x2, x3⟩ := memS_is q2
      exact memS_ext (by rw [List.length_set]) (fun i => memS_set (y := (t, k, lnsAt ms (memS ms f n))) x1 x2.symm x3.symm i f n)
theorem memS_same {f n t k : Int} (h0 : memS ms f n ≠ 0) : memS ms t k = memS ms f n ↔ (f = t ∧ n = k) := by
  constructor
  · intro e
    obtain ⟨x, x1, x2, x3⟩ := memS_is h0
    obtain ⟨z, z1, z2, z3⟩ := memS_is (show memS ms t k ≠ 0 by omega)
    rw [e, x1] at z1
    cases z1
    omega
  · rintro ⟨rfl, rfl⟩; rfl
end M8
set_option maxHeartbeats 4000000 in
set_option maxRecDepth 100000 in
theorem kX10_move (lc : Launch) (D : va_G) (ac : Nat → ClassId) {sh : Nat → Nat × Nat} {rf : Nat → Nat → Option Nat} {mem : Nat → Nat → Int} (m : Nat) (B : Nat → Nat) (rp ex ar : List Int) (ms : List (Option MemT)) (ss : List (Option SetT)) (ch : Lns) (ds : Dfs) (lk : Nat) (g y z : Int) (f t n w : Int) (hM : MO sh rf m B) (hV : MV m B mem rp ms ss ch ds lk ex ar g y z) (kR : okR rp) (kM : okM ms) (kT : 0 ≤ g ∧ g ≤ 12 ∧ (y = 0 ∨ y = 1)) (h_f : inR f) (h_t : inR t) (h_n : inR n) (h_w : inR w) : gMet lc D ac mX10_move 3 [.ref m, .int (iI f), .int (iI t), .int (iI n), .int (iI w)] 0 0 sh rf mem (pM sh rf (fun r mem1 => r = mvC rp ms f t n w ∧ MV m B mem1 rp (movS rp ms f t n w y) ss ch ds lk ex ar (stG g (mvC rp ms f t n w)) y (stZ y z (mvC rp ms f t n w)) ∧ chA m B mem mem1)) := by
  refine gMet.mk (by decide) (by intro v hv; simp at hv; (try rcases hv with rfl | rfl | rfl | rfl | rfl) <;> rfl) (Nat.le_of_ble_eq_true rfl) (fun X hC hI => ?_)
  show gG X sh rf mem 0 0 0 [some (.ref m), some (.int (iI f)), some (.int (iI t)), some (.int (iI n)), some (.int (iI w)), none, none, none, none, none] []
  have hM9 := hM
  obtain ⟨mo, R4, S4, R5, S5, R6, S6, R7, S7, R8, S8, R9, S9, R10, S10, R11, S11, R12, S12, R13, S13, R14, S14, R15, S15, R16, S16, R17, S17, R19, S19, R20, S20, R21, S21, R22, S22, R25, S25, R26, S26, R27, S27, R30, S30, R31, S31, hBe, hBm, hmB⟩ := hM
  have i_f := h_f
  obtain ⟨f1, f2⟩ := h_f
  have i_t := h_t
  obtain ⟨tt1, tt2⟩ := h_t
  have i_n := h_n
  obtain ⟨n1, n2⟩ := h_n
  have i_w := h_w
  obtain ⟨w1, w2⟩ := h_w
  have k1 := kM.1
  have k2 := kR.1
  have cle := mvC_le (rp := rp) (ms := ms) f t n w
  obtain ⟨mem0, e0⟩ : ∃ q, q = gup mem m 0 0 := ⟨_, rfl⟩
  obtain ⟨hV0, hc0⟩ := MV.code (v := 0) hmB hV
  rw [← e0] at hV0 hc0
  have hV9 := hV0
  obtain ⟨hvL, hvM, hvS, hvC, hvD, hvO, hvI, hvT⟩ := hV0
  have l2 := hvM.1
  have J129 : (1 ≤ f ∧ f ≤ rp.length) ∧ 1 ≤ t ∧ t ≤ rp.length → (0 ≤ n ∧ n < 100) ∧ (w = -1 ∨ (0 ≤ w ∧ w < 100)) → ∀ (v : Int), (v = if memS ms f n = 0 then 0 else (memS ms t (tn w n) : Int)) → gG X sh rf mem0 0 0 129 [some (.ref m), some (.int (iI f)), some (.int (iI t)), some (.int (iI n)), some (.int (iI w)), some (.int (iI (memS ms f n))), some (.int (iI (tn w n))), some (.int (iI v)), some (.int (iI (mvC rp ms f t n w))), none] [] := by
    intro hlf hnw v hv0
    have spec := mvC_one (ms := ms) hlf hnw k1
    have tl := tn_le hnw.2 hnw.1
    have le1 := memS_le f n ms
    have le2 := memS_le t (tn w n) ms
    have vle : 0 ≤ v ∧ v ≤ 80 := by rw [hv0]; split <;> omega
    have c0 : 0 ≤ mvC rp ms f t n w := by
      rw [spec]
      split
      · omega
      · split
        · omega
        · split <;> omega
    refine g_aload_n hC dX10_move_129 rfl ?_
    refine g_iload hC dX10_move_130 rfl ?_
    refine g_VM hC (kX10_acts (gl X) (gD X) (gac X) m B g y z _ hM9 hvT kT ⟨c0, cle.2⟩) cvX10_acts lkX10_151 (by assumption) rfl rfl (Nat.le_of_ble_eq_true rfl) (hI.fit (Nat.le_of_ble_eq_true rfl) (Nat.le_of_ble_eq_true rfl) (Nat.le_of_ble_eq_true rfl)) dX10_move_132 (fun x132 mem132 hx132 => ?_)
    obtain ⟨a1, a2, a3⟩ := hx132
    refine g_if_eq (tgt := 150) hC dX10_move_135 (by decide) ⟨by omega, by omega⟩ (fun h135 => ?_) (fun h135 => ?_)
    · refine g_iload hC dX10_move_150 rfl ?_
      refine g_iret hC hI rfl dX10_move_152 (Nat.le_of_ble_eq_true rfl) (Nat.le_of_ble_eq_true rfl) ⟨rfl, rfl, _, rfl, ?_⟩
      have e9 : movS rp ms f t n w y = ms := by
        first
        | rw [movS, if_neg (by omega)]
        | (by_cases q : y = 0 ∧ mvC rp ms f t n w = 0
           · rw [movS, if_pos q]
             have hs : memS ms f n ≠ 0 := by
               intro e
               rw [spec, if_pos e] at q
               omega
             rw [if_neg hs] at hv0
             obtain ⟨u1, u2⟩ := (memS_same hs).mp (show memS ms t (tn w n) = memS ms f n by omega)
             exact mvS_same u1 u2
           · rw [movS, if_neg q])
      rw [e9]
      exact ⟨rfl, ⟨hvL.st a3 (by decide), hvM.st a3 (by decide), hvS.st a3 (by decide), hvC.st a3 (by decide), hvD.st a3 (by decide), hvO.st a3 (by decide), hvI.st a3 (by decide), a2⟩, chA.trans hc0.2 a3.2⟩
    · refine g_iload hC dX10_move_138 rfl ?_
      refine g_if_gt (tgt := 150) hC dX10_move_140 (by decide) ⟨by omega, by omega⟩ (fun h140 => ?_) (fun h140 => ?_)
      · refine g_iload hC dX10_move_150 rfl ?_
        refine g_iret hC hI rfl dX10_move_152 (Nat.le_of_ble_eq_true rfl) (Nat.le_of_ble_eq_true rfl) ⟨rfl, rfl, _, rfl, ?_⟩
        have e9 : movS rp ms f t n w y = ms := by
          first
          | rw [movS, if_neg (by omega)]
          | (by_cases q : y = 0 ∧ mvC rp ms f t n w = 0
             · rw [movS, if_pos q]
               have hs : memS ms f n ≠ 0 := by
                 intro e
                 rw [spec, if_pos e] at q
                 omega
               rw [if_neg hs] at hv0
               obtain ⟨u1, u2⟩ := (memS_same hs).mp (show memS ms t (tn w n) = memS ms f n by omega)
               exact mvS_same u1 u2
             · rw [movS, if_neg q])
        rw [e9]
        exact ⟨rfl, ⟨hvL.st a3 (by decide), hvM.st a3 (by decide), hvS.st a3 (by decide), hvC.st a3 (by decide), hvD.st a3 (by decide), hvO.st a3 (by decide), hvI.st a3 (by decide), a2⟩, chA.trans hc0.2 a3.2⟩
      · refine g_iload hC dX10_move_143 rfl ?_
        refine g_iload hC dX10_move_145 rfl ?_
        refine g_icmp_ne (tgt := 153) hC dX10_move_147 (by decide) ⟨by omega, by omega⟩ ⟨by omega, by omega⟩ (fun h147 => ?_) (fun h147 => ?_)
        · have y0 : y = 0 := by omega
          have cc : mvC rp ms f t n w = 0 := by omega
          have hs : memS ms f n ≠ 0 := by
            intro e
            rw [spec, if_pos e] at cc
            omega
          rw [if_neg hs] at hv0
          have nq : ¬ (memS ms t (tn w n) = 0 ∧ ms.length = 80) := by
            intro q
            rw [spec, if_neg hs, if_pos q] at cc
            omega
          refine g_aload_n hC dX10_move_153 rfl ?_
          refine g_iload hC dX10_move_154 rfl ?_
          refine g_iload_n hC dX10_move_156 rfl ?_
          refine g_iload hC dX10_move_157 rfl ?_
          refine g_iconst hC dX10_move_159 ?_
          refine g_VM hC (kX10_one (gl X) (gD X) (gac X) m B rp ms f n t (tn w n) 1 hM9 (hvL.st a3 (by decide)) (hvM.st a3 (by decide)) kR kM hs hlf.2 tl (Or.inr rfl) (fun _ q => by omega)) cvX10_one lkX10_147 (by assumption) rfl rfl (Nat.le_of_ble_eq_true rfl) (hI.fit (Nat.le_of_ble_eq_true rfl) (Nat.le_of_ble_eq_true rfl) (Nat.le_of_ble_eq_true rfl)) dX10_move_160 (fun x160 mem160 hx160 => ?_)
          refine g_istore hC dX10_move_163 (Nat.le_of_ble_eq_true rfl) ?_
          dsimp only [List.set]
          refine g_aload_n hC dX10_move_165 rfl ?_
          refine g_getR hC fdX10_23 (by assumption) (by assumption) dX10_move_166 ?_
          refine g_iload hC dX10_move_169 rfl ?_
          refine g_iconst hC dX10_move_171 ?_
          refine g_zast hC (by assumption) (by omega) (by omega) (by decide) (by omega) dX10_move_172 ?_
          refine g_iload hC dX10_move_173 rfl ?_
          refine g_iret hC hI rfl dX10_move_175 (Nat.le_of_ble_eq_true rfl) (Nat.le_of_ble_eq_true rfl) ⟨rfl, rfl, _, rfl, ?_⟩
          obtain ⟨h161, -, h162⟩ := hx160
          obtain ⟨h163, h164⟩ := h162 rfl
          have nsm : ¬ (f = t ∧ n = tn w n) := fun q => by have := (memS_same hs).mpr q; omega
          have em := memS_cp1 (rp := rp) (ms := ms) nsm
          have hs2 : memS (cp1 rp ms f n t (tn w n)) f n ≠ 0 := by rw [em]; exact hs
          obtain ⟨x, x1, x2, x3⟩ := memS_is hs2
          rw [em] at x1
          obtain ⟨g1, g2⟩ := vM_gone hBe hmB h163 x1
          rw [show memS ms f n - 1 + 1 = memS ms f n by omega] at g1 g2
          have e9 : movS rp ms f t n w y = (cp1 rp ms f n t (tn w n)).set (memS ms f n - 1) none := by
            rw [movS, if_pos ⟨y0, cc⟩, mvS_else nsm, drp, if_neg hs2, em]
          have e8 : x160 = mvC rp ms f t n w := by rw [h161, spec, if_neg hs, if_neg nq]
          have a4 := (a3.trans (h164.trans g2)).mono (ws := [2, 5, 6, 7, 8, 9, 10, 11, 33, 34]) (by decide)
          rw [e9, e8]
          exact ⟨rfl, ⟨hvL.st a4 (by decide), g1, hvS.st a4 (by decide), hvC.st a4 (by decide), hvD.st a4 (by decide), hvO.st a4 (by decide), hvI.st a4 (by decide), a2.st (h164.trans g2) (by decide)⟩, chA.trans hc0.2 a4.2⟩
        · refine g_iload hC dX10_move_150 rfl ?_
          refine g_iret hC hI rfl dX10_move_152 (Nat.le_of_ble_eq_true rfl) (Nat.le_of_ble_eq_true rfl) ⟨rfl, rfl, _, rfl, ?_⟩
          have e9 : movS rp ms f t n w y = ms := by
            first
            | rw [movS, if_neg (by omega)]
            | (by_cases q : y = 0 ∧ mvC rp ms f t n w = 0
               · rw [movS, if_pos q]
                 have hs : memS ms f n ≠ 0 := by
                   intro e
                   rw [spec, if_pos e] at q
                   omega
                 rw [if_neg hs] at hv0
                 obtain ⟨u1, u2⟩ := (memS_same hs).mp (show memS ms t (tn w n) = memS ms f n by omega)
                 exact mvS_same u1 u2
               · rw [movS, if_neg q])
          rw [e9]
          exact ⟨rfl, ⟨hvL.st a3 (by decide), hvM.st a3 (by decide), hvS.st a3 (by decide), hvC.st a3 (by decide), hvD.st a3 (by decide), hvO.st a3 (by decide), hvI.st a3 (by decide), a2⟩, chA.trans hc0.2 a3.2⟩
  have J70 : (1 ≤ f ∧ f ≤ rp.length) ∧ 1 ≤ t ∧ t ≤ rp.length → (0 ≤ n ∧ n < 100) ∧ (w = -1 ∨ (0 ≤ w ∧ w < 100)) → gG X sh rf mem0 0 0 70 [some (.ref m), some (.int (iI f)), some (.int (iI t)), some (.int (iI n)), some (.int (iI w)), some (.int (iI (memS ms f n))), some (.int (iI (tn w n))), none, none, none] [] := by
    intro hlf hnw
    have spec := mvC_one (ms := ms) hlf hnw k1
    have tl := tn_le hnw.2 hnw.1
    have le1 := memS_le f n ms
    have le2 := memS_le t (tn w n) ms
    refine g_iload hC dX10_move_70 rfl ?_
    refine g_if_ne (tgt := 79) hC dX10_move_72 (by decide) ⟨by omega, by omega⟩ (fun h72 => ?_) (fun h72 => ?_)
    · refine g_aload_n hC dX10_move_79 rfl ?_
      refine g_iload_n hC dX10_move_80 rfl ?_
      refine g_iload hC dX10_move_81 rfl ?_
      refine g_VP hC (kX10_memberOf (gl X) (gD X) (gac X) m B ms t (tn w n) hM9 hvM kM i_t ⟨by omega, by omega⟩) cvX10_memberOf lkX10_103 (by assumption) rfl rfl (Nat.le_of_ble_eq_true rfl) (hI.fit (Nat.le_of_ble_eq_true rfl) (Nat.le_of_ble_eq_true rfl) (Nat.le_of_ble_eq_true rfl)) dX10_move_83 (fun x83 hx83 => ?_)
      subst hx83
      refine g_istore hC dX10_move_86 (Nat.le_of_ble_eq_true rfl) ?_
      dsimp only [List.set]
      refine g_iload hC dX10_move_88 rfl ?_
      refine g_if_ne (tgt := 98) hC dX10_move_90 (by decide) ⟨by omega, by omega⟩ (fun h90 => ?_) (fun h90 => ?_)
      · refine g_iload hC dX10_move_98 rfl ?_
        refine g_if_ne (tgt := 117) hC dX10_move_100 (by decide) ⟨by omega, by omega⟩ (fun h100 => ?_) (fun h100 => ?_)
        · refine g_aload_n hC dX10_move_117 rfl ?_
          refine g_iload hC dX10_move_118 rfl ?_
          refine g_iload_n hC dX10_move_120 rfl ?_
          refine g_iload hC dX10_move_121 rfl ?_
          refine g_iconst hC dX10_move_123 ?_
          refine g_VM hC (kX10_one (gl X) (gD X) (gac X) m B rp ms f n t (tn w n) 0 hM9 hvL hvM kR kM (by omega) hlf.2 tl (Or.inl rfl) (fun w => absurd w (by decide))) cvX10_one lkX10_147 (by assumption) rfl rfl (Nat.le_of_ble_eq_true rfl) (hI.fit (Nat.le_of_ble_eq_true rfl) (Nat.le_of_ble_eq_true rfl) (Nat.le_of_ble_eq_true rfl)) dX10_move_124 (fun x124 mem124 hx124 => ?_)
          obtain ⟨h124, h125, -⟩ := hx124
          obtain rfl := h125 rfl
          have r124 : 0 ≤ x124 ∧ x124 ≤ 4 := by rw [h124]; split <;> omega
          refine g_topI (a := mvC rp ms f t n w) (by first | (exfalso; omega) | (rw [spec, if_pos (by omega)]; done) | (rw [spec, if_neg (by omega), if_pos (by omega)]; done) | (rw [spec, if_neg (by omega), if_neg (by omega), h124]; done)) ?_
          refine g_istore hC dX10_move_127 (Nat.le_of_ble_eq_true rfl) ?_
          dsimp only [List.set]
          exact J129 hlf hnw _ (by first | (exfalso; omega) | (rw [if_pos (by omega)]; done) | (rw [if_neg (by omega)]; done))
        · refine g_aload_n hC dX10_move_103 rfl ?_
          refine g_getI hC fdX10_90 (by assumption) dX10_move_104 ?_
          refine g_bipush hC dX10_move_107 (by decide +kernel) ?_
          refine g_icmp_ne (tgt := 117) hC dX10_move_109 (by decide) ⟨by omega, by omega⟩ ⟨by omega, by omega⟩ (fun h109 => ?_) (fun h109 => ?_)
          · refine g_aload_n hC dX10_move_117 rfl ?_
            refine g_iload hC dX10_move_118 rfl ?_
            refine g_iload_n hC dX10_move_120 rfl ?_
            refine g_iload hC dX10_move_121 rfl ?_
            refine g_iconst hC dX10_move_123 ?_
            refine g_VM hC (kX10_one (gl X) (gD X) (gac X) m B rp ms f n t (tn w n) 0 hM9 hvL hvM kR kM (by omega) hlf.2 tl (Or.inl rfl) (fun w => absurd w (by decide))) cvX10_one lkX10_147 (by assumption) rfl rfl (Nat.le_of_ble_eq_true rfl) (hI.fit (Nat.le_of_ble_eq_true rfl) (Nat.le_of_ble_eq_true rfl) (Nat.le_of_ble_eq_true rfl)) dX10_move_124 (fun x124 mem124 hx124 => ?_)
            obtain ⟨h124, h125, -⟩ := hx124
            obtain rfl := h125 rfl
            have r124 : 0 ≤ x124 ∧ x124 ≤ 4 := by rw [h124]; split <;> omega
            refine g_topI (a := mvC rp ms f t n w) (by first | (exfalso; omega) | (rw [spec, if_pos (by omega)]; done) | (rw [spec, if_neg (by omega), if_pos (by omega)]; done) | (rw [spec, if_neg (by omega), if_neg (by omega), h124]; done)) ?_
            refine g_istore hC dX10_move_127 (Nat.le_of_ble_eq_true rfl) ?_
            dsimp only [List.set]
            exact J129 hlf hnw _ (by first | (exfalso; omega) | (rw [if_pos (by omega)]; done) | (rw [if_neg (by omega)]; done))
          · refine g_bipush hC dX10_move_112 (by decide +kernel) ?_
            refine g_goto (tgt := 127) hC dX10_move_114 (by decide) ?_
            refine g_topI (a := mvC rp ms f t n w) (by first | (exfalso; omega) | (rw [spec, if_pos (by omega)]; done) | (rw [spec, if_neg (by omega), if_pos (by omega)]; done) | (rw [spec, if_neg (by omega), if_neg (by omega), h124]; done)) ?_
            refine g_istore hC dX10_move_127 (Nat.le_of_ble_eq_true rfl) ?_
            dsimp only [List.set]
            exact J129 hlf hnw _ (by first | (exfalso; omega) | (rw [if_pos (by omega)]; done) | (rw [if_neg (by omega)]; done))
      · refine g_bipush hC dX10_move_93 (by decide +kernel) ?_
        refine g_goto (tgt := 127) hC dX10_move_95 (by decide) ?_
        refine g_topI (a := mvC rp ms f t n w) (by first | (exfalso; omega) | (rw [spec, if_pos (by omega)]; done) | (rw [spec, if_neg (by omega), if_pos (by omega)]; done) | (rw [spec, if_neg (by omega), if_neg (by omega), h124]; done)) ?_
        refine g_istore hC dX10_move_127 (Nat.le_of_ble_eq_true rfl) ?_
        dsimp only [List.set]
        exact J129 hlf hnw _ (by first | (exfalso; omega) | (rw [if_pos (by omega)]; done) | (rw [if_neg (by omega)]; done))
    · refine g_iconst hC dX10_move_75 ?_
      refine g_goto (tgt := 86) hC dX10_move_76 (by decide) ?_
      refine g_istore hC dX10_move_86 (Nat.le_of_ble_eq_true rfl) ?_
      dsimp only [List.set]
      refine g_iload hC dX10_move_88 rfl ?_
      refine g_if_ne (tgt := 98) hC dX10_move_90 (by decide) ⟨by omega, by omega⟩ (fun h90 => ?_) (fun h90 => ?_)
      · refine g_iload hC dX10_move_98 rfl ?_
        refine g_if_ne (tgt := 117) hC dX10_move_100 (by decide) ⟨by omega, by omega⟩ (fun h100 => ?_) (fun h100 => ?_)
        · refine g_aload_n hC dX10_move_117 rfl ?_
          refine g_iload hC dX10_move_118 rfl ?_
          refine g_iload_n hC dX10_move_120 rfl ?_
          refine g_iload hC dX10_move_121 rfl ?_
          refine g_iconst hC dX10_move_123 ?_
          refine g_VM hC (kX10_one (gl X) (gD X) (gac X) m B rp ms f n t (tn w n) 0 hM9 hvL hvM kR kM (by omega) hlf.2 tl (Or.inl rfl) (fun w => absurd w (by decide))) cvX10_one lkX10_147 (by assumption) rfl rfl (Nat.le_of_ble_eq_true rfl) (hI.fit (Nat.le_of_ble_eq_true rfl) (Nat.le_of_ble_eq_true rfl) (Nat.le_of_ble_eq_true rfl)) dX10_move_124 (fun x124 mem124 hx124 => ?_)
          obtain ⟨h124, h125, -⟩ := hx124
          obtain rfl := h125 rfl
          have r124 : 0 ≤ x124 ∧ x124 ≤ 4 := by rw [h124]; split <;> omega
          refine g_topI (a := mvC rp ms f t n w) (by first | (exfalso; omega) | (rw [spec, if_pos (by omega)]; done) | (rw [spec, if_neg (by omega), if_pos (by omega)]; done) | (rw [spec, if_neg (by omega), if_neg (by omega), h124]; done)) ?_
          refine g_istore hC dX10_move_127 (Nat.le_of_ble_eq_true rfl) ?_
          dsimp only [List.set]
          exact J129 hlf hnw _ (by first | (exfalso; omega) | (rw [if_pos (by omega)]; done) | (rw [if_neg (by omega)]; done))
        · refine g_aload_n hC dX10_move_103 rfl ?_
          refine g_getI hC fdX10_90 (by assumption) dX10_move_104 ?_
          refine g_bipush hC dX10_move_107 (by decide +kernel) ?_
          refine g_icmp_ne (tgt := 117) hC dX10_move_109 (by decide) ⟨by omega, by omega⟩ ⟨by omega, by omega⟩ (fun h109 => ?_) (fun h109 => ?_)
          · refine g_aload_n hC dX10_move_117 rfl ?_
            refine g_iload hC dX10_move_118 rfl ?_
            refine g_iload_n hC dX10_move_120 rfl ?_
            refine g_iload hC dX10_move_121 rfl ?_
            refine g_iconst hC dX10_move_123 ?_
            refine g_VM hC (kX10_one (gl X) (gD X) (gac X) m B rp ms f n t (tn w n) 0 hM9 hvL hvM kR kM (by omega) hlf.2 tl (Or.inl rfl) (fun w => absurd w (by decide))) cvX10_one lkX10_147 (by assumption) rfl rfl (Nat.le_of_ble_eq_true rfl) (hI.fit (Nat.le_of_ble_eq_true rfl) (Nat.le_of_ble_eq_true rfl) (Nat.le_of_ble_eq_true rfl)) dX10_move_124 (fun x124 mem124 hx124 => ?_)
            obtain ⟨h124, h125, -⟩ := hx124
            obtain rfl := h125 rfl
            have r124 : 0 ≤ x124 ∧ x124 ≤ 4 := by rw [h124]; split <;> omega
            refine g_topI (a := mvC rp ms f t n w) (by first | (exfalso; omega) | (rw [spec, if_pos (by omega)]; done) | (rw [spec, if_neg (by omega), if_pos (by omega)]; done) | (rw [spec, if_neg (by omega), if_neg (by omega), h124]; done)) ?_
            refine g_istore hC dX10_move_127 (Nat.le_of_ble_eq_true rfl) ?_
            dsimp only [List.set]
            exact J129 hlf hnw _ (by first | (exfalso; omega) | (rw [if_pos (by omega)]; done) | (rw [if_neg (by omega)]; done))
          · refine g_bipush hC dX10_move_112 (by decide +kernel) ?_
            refine g_goto (tgt := 127) hC dX10_move_114 (by decide) ?_
            refine g_topI (a := mvC rp ms f t n w) (by first | (exfalso; omega) | (rw [spec, if_pos (by omega)]; done) | (rw [spec, if_neg (by omega), if_pos (by omega)]; done) | (rw [spec, if_neg (by omega), if_neg (by omega), h124]; done)) ?_
            refine g_istore hC dX10_move_127 (Nat.le_of_ble_eq_true rfl) ?_
            dsimp only [List.set]
            exact J129 hlf hnw _ (by first | (exfalso; omega) | (rw [if_pos (by omega)]; done) | (rw [if_neg (by omega)]; done))
      · refine g_bipush hC dX10_move_93 (by decide +kernel) ?_
        refine g_goto (tgt := 127) hC dX10_move_95 (by decide) ?_
        refine g_topI (a := mvC rp ms f t n w) (by first | (exfalso; omega) | (rw [spec, if_pos (by omega)]; done) | (rw [spec, if_neg (by omega), if_pos (by omega)]; done) | (rw [spec, if_neg (by omega), if_neg (by omega), h124]; done)) ?_
        refine g_istore hC dX10_move_127 (Nat.le_of_ble_eq_true rfl) ?_
        dsimp only [List.set]
        exact J129 hlf hnw _ (by first | (exfalso; omega) | (rw [if_pos (by omega)]; done) | (rw [if_neg (by omega)]; done))
  refine g_aload_n hC dX10_move_0 rfl ?_
  refine g_iconst hC dX10_move_1 ?_
  refine g_putI hC fdX10_84 (by assumption) rfl rfl dX10_move_2 ?_
  rw [← e0]
  refine g_aload_n hC dX10_move_5 rfl ?_
  refine g_iload_n hC dX10_move_6 rfl ?_
  refine g_VP hC (kX10_isLibrary (gl X) (gD X) (gac X) m B rp f hM9 hvL kR i_f) cvX10_isLibrary lkX10_96 (by assumption) rfl rfl (Nat.le_of_ble_eq_true rfl) (hI.fit (Nat.le_of_ble_eq_true rfl) (Nat.le_of_ble_eq_true rfl) (Nat.le_of_ble_eq_true rfl)) dX10_move_7 (fun x7 hx7 => ?_)
  refine g_if_eq (tgt := 21) hC dX10_move_10 (by decide) ⟨by omega, by omega⟩ (fun h10 => ?_) (fun h10 => ?_)
  · refine g_bipush hC dX10_move_21 (by decide +kernel) ?_
    refine g_iret hC hI rfl dX10_move_23 (Nat.le_of_ble_eq_true rfl) (Nat.le_of_ble_eq_true rfl) ⟨rfl, rfl, _, rfl, ?_⟩
    have e8 : mvC rp ms f t n w = -2 := by rw [mvC, if_neg (by omega)]; exact if_pos (by omega)
    have e9 : movS rp ms f t n w y = ms := by rw [movS, if_neg]; rw [e8]; omega
    rw [e9, e8, show stG g (-2) = g from rfl, show stZ y z (-2) = z from if_neg (by omega)]
    exact ⟨rfl, ⟨hV9, hc0.2⟩⟩
  · refine g_aload_n hC dX10_move_13 rfl ?_
    refine g_iload_n hC dX10_move_14 rfl ?_
    refine g_VP hC (kX10_isLibrary (gl X) (gD X) (gac X) m B rp t hM9 hvL kR i_t) cvX10_isLibrary lkX10_96 (by assumption) rfl rfl (Nat.le_of_ble_eq_true rfl) (hI.fit (Nat.le_of_ble_eq_true rfl) (Nat.le_of_ble_eq_true rfl) (Nat.le_of_ble_eq_true rfl)) dX10_move_15 (fun x15 hx15 => ?_)
    refine g_if_ne (tgt := 24) hC dX10_move_18 (by decide) ⟨by omega, by omega⟩ (fun h18 => ?_) (fun h18 => ?_)
    · refine g_iload_n hC dX10_move_24 rfl ?_
      refine g_SP hC (kX10_isName (gl X) (gD X) (gac X) n i_n) csX10_isName lkX10_100 rfl rfl (Nat.le_of_ble_eq_true rfl) (hI.fit (Nat.le_of_ble_eq_true rfl) (Nat.le_of_ble_eq_true rfl) (Nat.le_of_ble_eq_true rfl)) dX10_move_25 (fun x25 hx25 => ?_)
      refine g_if_eq (tgt := 45) hC dX10_move_28 (by decide) ⟨by omega, by omega⟩ (fun h28 => ?_) (fun h28 => ?_)
      · refine g_bipush hC dX10_move_45 (by decide +kernel) ?_
        refine g_iret hC hI rfl dX10_move_47 (Nat.le_of_ble_eq_true rfl) (Nat.le_of_ble_eq_true rfl) ⟨rfl, rfl, _, rfl, ?_⟩
        have e8 : mvC rp ms f t n w = -4 := by
          rw [mvC]
          by_cases q : (1 ≤ f ∧ f ≤ rp.length) ∧ (1 ≤ t ∧ t ≤ rp.length) ∧ n = -1
          · exact if_pos q
          · rw [if_neg q, cpC, if_neg (by omega), if_pos (by omega)]
        have e9 : movS rp ms f t n w y = ms := by rw [movS, if_neg]; rw [e8]; omega
        rw [e9, e8, show stG g (-4) = g from rfl, show stZ y z (-4) = z from if_neg (by omega)]
        exact ⟨rfl, ⟨hV9, hc0.2⟩⟩
      · refine g_iload hC dX10_move_31 rfl ?_
        refine g_iconst hC dX10_move_33 ?_
        refine g_icmp_eq (tgt := 48) hC dX10_move_34 (by decide) ⟨by omega, by omega⟩ ⟨by omega, by omega⟩ (fun h34 => ?_) (fun h34 => ?_)
        · have hlf : (1 ≤ f ∧ f ≤ rp.length) ∧ 1 ≤ t ∧ t ≤ rp.length := by omega
          have hnw : (0 ≤ n ∧ n < 100) ∧ (w = -1 ∨ (0 ≤ w ∧ w < 100)) := by omega
          have spec := mvC_one (ms := ms) hlf hnw k1
          have tl := tn_le hnw.2 hnw.1
          have le1 := memS_le f n ms
          have le2 := memS_le t (tn w n) ms
          refine g_aload_n hC dX10_move_48 rfl ?_
          refine g_iload_n hC dX10_move_49 rfl ?_
          refine g_iload_n hC dX10_move_50 rfl ?_
          refine g_VP hC (kX10_memberOf (gl X) (gD X) (gac X) m B ms f n hM9 hvM kM i_f i_n) cvX10_memberOf lkX10_103 (by assumption) rfl rfl (Nat.le_of_ble_eq_true rfl) (hI.fit (Nat.le_of_ble_eq_true rfl) (Nat.le_of_ble_eq_true rfl) (Nat.le_of_ble_eq_true rfl)) dX10_move_51 (fun x51 hx51 => ?_)
          subst hx51
          refine g_istore hC dX10_move_54 (Nat.le_of_ble_eq_true rfl) ?_
          dsimp only [List.set]
          refine g_iload hC dX10_move_56 rfl ?_
          refine g_iconst hC dX10_move_58 ?_
          refine g_icmp_ne (tgt := 66) hC dX10_move_59 (by decide) ⟨by omega, by omega⟩ ⟨by omega, by omega⟩ (fun h59 => ?_) (fun h59 => ?_)
          · refine g_iload hC dX10_move_66 rfl ?_
            refine g_topI (a := tn w n) (by first | (exfalso; omega) | (rw [tn_1 (by omega)]; done) | (rw [tn_2 (by omega)]; done)) ?_
            refine g_istore hC dX10_move_68 (Nat.le_of_ble_eq_true rfl) ?_
            dsimp only [List.set]
            exact J70 hlf hnw
          · refine g_iload_n hC dX10_move_62 rfl ?_
            refine g_goto (tgt := 68) hC dX10_move_63 (by decide) ?_
            refine g_topI (a := tn w n) (by first | (exfalso; omega) | (rw [tn_1 (by omega)]; done) | (rw [tn_2 (by omega)]; done)) ?_
            refine g_istore hC dX10_move_68 (Nat.le_of_ble_eq_true rfl) ?_
            dsimp only [List.set]
            exact J70 hlf hnw
        · refine g_iload hC dX10_move_37 rfl ?_
          refine g_SP hC (kX10_isName (gl X) (gD X) (gac X) w i_w) csX10_isName lkX10_100 rfl rfl (Nat.le_of_ble_eq_true rfl) (hI.fit (Nat.le_of_ble_eq_true rfl) (Nat.le_of_ble_eq_true rfl) (Nat.le_of_ble_eq_true rfl)) dX10_move_39 (fun x39 hx39 => ?_)
          refine g_if_ne (tgt := 48) hC dX10_move_42 (by decide) ⟨by omega, by omega⟩ (fun h42 => ?_) (fun h42 => ?_)
          · have hlf : (1 ≤ f ∧ f ≤ rp.length) ∧ 1 ≤ t ∧ t ≤ rp.length := by omega
            have hnw : (0 ≤ n ∧ n < 100) ∧ (w = -1 ∨ (0 ≤ w ∧ w < 100)) := by omega
            have spec := mvC_one (ms := ms) hlf hnw k1
            have tl := tn_le hnw.2 hnw.1
            have le1 := memS_le f n ms
            have le2 := memS_le t (tn w n) ms
            refine g_aload_n hC dX10_move_48 rfl ?_
            refine g_iload_n hC dX10_move_49 rfl ?_
            refine g_iload_n hC dX10_move_50 rfl ?_
            refine g_VP hC (kX10_memberOf (gl X) (gD X) (gac X) m B ms f n hM9 hvM kM i_f i_n) cvX10_memberOf lkX10_103 (by assumption) rfl rfl (Nat.le_of_ble_eq_true rfl) (hI.fit (Nat.le_of_ble_eq_true rfl) (Nat.le_of_ble_eq_true rfl) (Nat.le_of_ble_eq_true rfl)) dX10_move_51 (fun x51 hx51 => ?_)
            subst hx51
            refine g_istore hC dX10_move_54 (Nat.le_of_ble_eq_true rfl) ?_
            dsimp only [List.set]
            refine g_iload hC dX10_move_56 rfl ?_
            refine g_iconst hC dX10_move_58 ?_
            refine g_icmp_ne (tgt := 66) hC dX10_move_59 (by decide) ⟨by omega, by omega⟩ ⟨by omega, by omega⟩ (fun h59 => ?_) (fun h59 => ?_)
            · refine g_iload hC dX10_move_66 rfl ?_
              refine g_topI (a := tn w n) (by first | (exfalso; omega) | (rw [tn_1 (by omega)]; done) | (rw [tn_2 (by omega)]; done)) ?_
              refine g_istore hC dX10_move_68 (Nat.le_of_ble_eq_true rfl) ?_
              dsimp only [List.set]
              exact J70 hlf hnw
            · refine g_iload_n hC dX10_move_62 rfl ?_
              refine g_goto (tgt := 68) hC dX10_move_63 (by decide) ?_
              refine g_topI (a := tn w n) (by first | (exfalso; omega) | (rw [tn_1 (by omega)]; done) | (rw [tn_2 (by omega)]; done)) ?_
              refine g_istore hC dX10_move_68 (Nat.le_of_ble_eq_true rfl) ?_
              dsimp only [List.set]
              exact J70 hlf hnw
          · refine g_bipush hC dX10_move_45 (by decide +kernel) ?_
            refine g_iret hC hI rfl dX10_move_47 (Nat.le_of_ble_eq_true rfl) (Nat.le_of_ble_eq_true rfl) ⟨rfl, rfl, _, rfl, ?_⟩
            have e8 : mvC rp ms f t n w = -4 := by
              rw [mvC]
              by_cases q : (1 ≤ f ∧ f ≤ rp.length) ∧ (1 ≤ t ∧ t ≤ rp.length) ∧ n = -1
              · exact if_pos q
              · rw [if_neg q, cpC, if_neg (by omega), if_pos (by omega)]
            have e9 : movS rp ms f t n w y = ms := by rw [movS, if_neg]; rw [e8]; omega
            rw [e9, e8, show stG g (-4) = g from rfl, show stZ y z (-4) = z from if_neg (by omega)]
            exact ⟨rfl, ⟨hV9, hc0.2⟩⟩
    · refine g_bipush hC dX10_move_21 (by decide +kernel) ?_
      refine g_iret hC hI rfl dX10_move_23 (Nat.le_of_ble_eq_true rfl) (Nat.le_of_ble_eq_true rfl) ⟨rfl, rfl, _, rfl, ?_⟩
      have e8 : mvC rp ms f t n w = -2 := by rw [mvC, if_neg (by omega)]; exact if_pos (by omega)
      have e9 : movS rp ms f t n w y = ms := by rw [movS, if_neg]; rw [e8]; omega
      rw [e9, e8, show stG g (-2) = g from rfl, show stZ y z (-2) = z from if_neg (by omega)]
      exact ⟨rfl, ⟨hV9, hc0.2⟩⟩
