set_option maxHeartbeats 4000000 in
set_option maxRecDepth 100000 in
theorem kX10_copy (lc : Launch) (D : va_G) (ac : Nat → ClassId) {sh : Nat → Nat × Nat} {rf : Nat → Nat → Option Nat} {mem : Nat → Nat → Int} (m : Nat) (B : Nat → Nat) (rp ex ar : List Int) (ms : List (Option MemT)) (ss : List (Option SetT)) (ch : Lns) (ds : Dfs) (lk : Nat) (g y z : Int) (f t n w : Int) (hM : MO sh rf m B) (hV : MV m B mem rp ms ss ch ds lk ex ar g y z) (kR : okR rp) (kM : okM ms) (kT : 0 ≤ g ∧ g ≤ 12 ∧ (y = 0 ∨ y = 1)) (h_f : inR f) (h_t : inR t) (h_n : inR n) (h_w : inR w) : gMet lc D ac mX10_copy 3 [.ref m, .int (iI f), .int (iI t), .int (iI n), .int (iI w)] 0 0 sh rf mem (pM sh rf (fun r mem1 => r = cpC rp ms f t n w ∧ MV m B mem1 rp (cpyS rp ms f t n w y) ss ch ds lk ex ar (stG g (cpC rp ms f t n w)) y (stZ y z (cpC rp ms f t n w)) ∧ chA m B mem mem1)) := by
  refine gMet.mk (by decide) (by intro v hv; simp at hv; (try rcases hv with rfl | rfl | rfl | rfl | rfl) <;> rfl) (Nat.le_of_ble_eq_true rfl) (fun X hC hI => ?_)
  show gG X sh rf mem 0 0 0 [some (.ref m), some (.int (iI f)), some (.int (iI t)), some (.int (iI n)), some (.int (iI w)), none, none, none, none, none, none, none] []
  have hM9 := hM
  obtain ⟨mo, R4, S4, R5, S5, R6, S6, R7, S7, R8, S8, R9, S9, R10, S10, R11, S11, R12, S12, R13, S13, R14, S14, R15, S15, R16, S16, R17, S17, R19, S19, R20, S20, R21, S21, R22, S22, R25, S25, R26, S26, R27, S27, R30, S30, R31, S31, hBe, hBm, hmB⟩ := hM
  have i_f := h_f
  obtain ⟨f1, f2⟩ := h_f
  have i_t := h_t
  obtain ⟨tt1, tt2⟩ := h_t
  have i_n := h_n
  obtain ⟨n1, n2⟩ := h_n
  have i_w := h_w
  obtain ⟨w1, w2⟩ := h_w
  have k1 := kM.1
  have k2 := kR.1
  have cle := cpC_le (rp := rp) (ms := ms) f t n w
  obtain ⟨mem0, e0⟩ : ∃ q, q = gup mem m 0 0 := ⟨_, rfl⟩
  obtain ⟨hV0, hc0⟩ := MV.code (v := 0) hmB hV
  rw [← e0] at hV0 hc0
  have hV9 := hV0
  obtain ⟨hvL, hvM, hvS, hvC, hvD, hvO, hvI, hvT⟩ := hV0
  have l2 := hvM.1
  obtain ⟨N1, hN1⟩ : ∃ N : Nat, N = cnt (fun j => flt n j && srcB ms f j) 100 0 := ⟨_, rfl⟩
  obtain ⟨N2, hN2⟩ : ∃ N : Nat, N = cnt (fun j => flt n j && frsB ms f t w j) 100 0 := ⟨_, rfl⟩
  obtain ⟨N3, hN3⟩ : ∃ N : Nat, N = cnt (fun j => flt n j && lftB rp ms f t w j) 100 0 := ⟨_, rfl⟩
  have K272 : ∀ (S D : Int) (k : Nat) (j : Int) (m1 : Nat → Nat → Int) (ns : List (Option MemT)) o10 o11 (v : Int), j + k + 1 = 100 → 0 ≤ j → (1 ≤ t ∧ t ≤ rp.length) → (w = -1 ∨ (0 ≤ w ∧ w < 100)) → vL m B m1 rp → vM m B m1 ns → okM ns → nwI ms.length t w ns → chF m B mem0 m1 [2, 5, 6, 7, 9, 10, 11, 33, 34] → vT m m1 (stG g (cpC rp ms f t n w)) y (stZ y z (cpC rp ms f t n w)) → ns.length + cnt (fun i => flt n i && frsB ns f t w i) (k + 1) j ≤ 80 → cpF rp f t w n (k + 1) j ns = cpyS rp ms f t n w y → (∀ (m1 : Nat → Nat → Int) (ns : List (Option MemT)) o10 o11, vL m B m1 rp → vM m B m1 ns → okM ns → nwI ms.length t w ns → chF m B mem0 m1 [2, 5, 6, 7, 9, 10, 11, 33, 34] → vT m m1 (stG g (cpC rp ms f t n w)) y (stZ y z (cpC rp ms f t n w)) → ns.length + cnt (fun i => flt n i && frsB ns f t w i) k (j + 1) ≤ 80 → cpF rp f t w n k (j + 1) ns = cpyS rp ms f t n w y → gG X sh rf m1 0 0 243 [some (.ref m), some (.int (iI f)), some (.int (iI t)), some (.int (iI n)), some (.int (iI w)), some (.int (iI S)), some (.int (iI D)), some (.int (iI (cpC rp ms f t n w))), some (.int (iI ms.length)), some (.int (iI (j + 1))), o10, o11] []) → v = (if flt n j = true then (memS ns f j : Int) else 0) → gG X sh rf m1 0 0 272 [some (.ref m), some (.int (iI f)), some (.int (iI t)), some (.int (iI n)), some (.int (iI w)), some (.int (iI S)), some (.int (iI D)), some (.int (iI (cpC rp ms f t n w))), some (.int (iI ms.length)), some (.int (iI j)), o10, o11] [.int (iI v)] := by
    intro S D k j m1 ns o10 o11 v d0 d1 d2 d3 d4 d5 d6 d7 d8 d11 d9 d10 ih hv0
    have st := rm_step (rp := rp) d9
    rw [cpF] at d10
    have vle : 0 ≤ v ∧ v ≤ 80 := by
      have h1 := memS_le f j ns
      have h2 := d6.1
      rw [hv0]
      split <;> omega
    refine g_istore hC dX10_copy_272 (Nat.le_of_ble_eq_true rfl) ?_
    dsimp only [List.set]
    refine g_iload hC dX10_copy_274 rfl ?_
    refine g_if_eq (tgt := 312) hC dX10_copy_276 (by decide) ⟨by omega, by omega⟩ (fun h276 => ?_) (fun h276 => ?_)
    · refine g_iinc hC dX10_copy_312 rfl ?_
      dsimp only [List.set]
      refine g_goto (tgt := 243) hC dX10_copy_315 (by decide) ?_
      first
      | (refine J243 _ _ cc 100 0 mem219 ms _ _ (by omega) (by omega) co.2.1 co.2.2.2.1 (hvL.st hx219.2.2 (by decide)) (hvM.st hx219.2.2 (by decide)) kM (fun i x hi hx => ?_) (hx219.2.2.mono (by decide)) hx219.2.1 (by rw [cnt_flt co.2.2.1]; exact co.2.2.2.2.2.2.1) (by rw [hfin]; exact cpF_eq co.2.2.1)
         exact absurd (getD_ltM (by rw [hx]; simp)) (by omega))
      | (have e1 : (if flt n j = true then cp1 rp ns f j t (tn w j) else ns) = ns := by
           by_cases q : flt n j = true
           · rw [if_pos q] at hv0 ⊢
             exact cp1_no (Or.inl (by omega))
           · rw [if_neg q]
         rw [e1] at st d10
         exact ih m1 ns _ _ d4 d5 d6 d7 d8 d11 st d10)
      | (have e1 : cp1 rp ns f j t (tn w j) = ns := nw_skip d7 (by omega)
         rw [e1, ite_self] at st d10
         exact ih m1 ns _ _ d4 d5 d6 d7 d8 d11 st d10)
      | (obtain ⟨-, -, h308⟩ := hx307
         obtain ⟨h309, h310⟩ := h308 rfl
         rw [if_pos fl] at st d10
         have okn := okM_cp1 (rp := rp) (f := f) (n := j) (t := t) (w := tn w j) d6 ⟨d2.1, by omega⟩ (tn_le d3 (by omega)) (fun _ q => rm_room d9 fl hs q)
         have nwn := nw_step (rp := rp) (f := f) (j := j) d7
         exact ih mem307 _ _ _ (d4.st h310 (by decide)) h309 okn nwn ((d8.trans h310).mono (by decide)) (d11.st h310 (by decide)) st d10)
    · have fl : flt n j = true := by
        apply Classical.byContradiction
        intro q
        rw [if_neg q] at hv0
        omega
      rw [if_pos fl] at hv0
      subst hv0
      have hs : memS ns f j ≠ 0 := by omega
      refine g_iload hC dX10_copy_279 rfl ?_
      refine g_iload hC dX10_copy_281 rfl ?_
      refine g_icmp_le (tgt := 289) hC dX10_copy_283 (by decide) ⟨by omega, by omega⟩ ⟨by omega, by omega⟩ (fun h283 => ?_) (fun h283 => ?_)
      · refine g_aload_n hC dX10_copy_289 rfl ?_
        refine g_iload hC dX10_copy_290 rfl ?_
        refine g_iload_n hC dX10_copy_292 rfl ?_
        refine g_iload hC dX10_copy_293 rfl ?_
        refine g_iconst hC dX10_copy_295 ?_
        refine g_icmp_ne (tgt := 304) hC dX10_copy_296 (by decide) ⟨by omega, by omega⟩ ⟨by omega, by omega⟩ (fun h296 => ?_) (fun h296 => ?_)
        · refine g_iload hC dX10_copy_304 rfl ?_
          first | refine g_topI (a := tn w j) (by rw [tn_1 (by omega)]) ?_ | refine g_topI (a := tn w j) (by rw [tn_2 (by omega)]) ?_
          refine g_iconst hC dX10_copy_306 ?_
          refine g_VM hC (kX10_one (gl X) (gD X) (gac X) m B rp ns f j t (tn w j) 1 hM9 d4 d5 kR d6 hs d2 (tn_le d3 (show 0 ≤ j ∧ j < 100 by omega)) (Or.inr rfl) (fun _ q => rm_room d9 fl hs q)) cvX10_one lkX10_147 (by assumption) rfl rfl (Nat.le_of_ble_eq_true rfl) (hI.fit (Nat.le_of_ble_eq_true rfl) (Nat.le_of_ble_eq_true rfl) (Nat.le_of_ble_eq_true rfl)) dX10_copy_307 (fun x307 mem307 hx307 => ?_)
          refine g_istore hC dX10_copy_310 (Nat.le_of_ble_eq_true rfl) ?_
          dsimp only [List.set]
          refine g_iinc hC dX10_copy_312 rfl ?_
          dsimp only [List.set]
          refine g_goto (tgt := 243) hC dX10_copy_315 (by decide) ?_
          first
          | (refine J243 _ _ cc 100 0 mem219 ms _ _ (by omega) (by omega) co.2.1 co.2.2.2.1 (hvL.st hx219.2.2 (by decide)) (hvM.st hx219.2.2 (by decide)) kM (fun i x hi hx => ?_) (hx219.2.2.mono (by decide)) hx219.2.1 (by rw [cnt_flt co.2.2.1]; exact co.2.2.2.2.2.2.1) (by rw [hfin]; exact cpF_eq co.2.2.1)
             exact absurd (getD_ltM (by rw [hx]; simp)) (by omega))
          | (have e1 : (if flt n j = true then cp1 rp ns f j t (tn w j) else ns) = ns := by
               by_cases q : flt n j = true
               · rw [if_pos q] at hv0 ⊢
                 exact cp1_no (Or.inl (by omega))
               · rw [if_neg q]
             rw [e1] at st d10
             exact ih m1 ns _ _ d4 d5 d6 d7 d8 d11 st d10)
          | (have e1 : cp1 rp ns f j t (tn w j) = ns := nw_skip d7 (by omega)
             rw [e1, ite_self] at st d10
             exact ih m1 ns _ _ d4 d5 d6 d7 d8 d11 st d10)
          | (obtain ⟨-, -, h308⟩ := hx307
             obtain ⟨h309, h310⟩ := h308 rfl
             rw [if_pos fl] at st d10
             have okn := okM_cp1 (rp := rp) (f := f) (n := j) (t := t) (w := tn w j) d6 ⟨d2.1, by omega⟩ (tn_le d3 (by omega)) (fun _ q => rm_room d9 fl hs q)
             have nwn := nw_step (rp := rp) (f := f) (j := j) d7
             exact ih mem307 _ _ _ (d4.st h310 (by decide)) h309 okn nwn ((d8.trans h310).mono (by decide)) (d11.st h310 (by decide)) st d10)
        · refine g_iload hC dX10_copy_299 rfl ?_
          refine g_goto (tgt := 306) hC dX10_copy_301 (by decide) ?_
          first | refine g_topI (a := tn w j) (by rw [tn_1 (by omega)]) ?_ | refine g_topI (a := tn w j) (by rw [tn_2 (by omega)]) ?_
          refine g_iconst hC dX10_copy_306 ?_
          refine g_VM hC (kX10_one (gl X) (gD X) (gac X) m B rp ns f j t (tn w j) 1 hM9 d4 d5 kR d6 hs d2 (tn_le d3 (show 0 ≤ j ∧ j < 100 by omega)) (Or.inr rfl) (fun _ q => rm_room d9 fl hs q)) cvX10_one lkX10_147 (by assumption) rfl rfl (Nat.le_of_ble_eq_true rfl) (hI.fit (Nat.le_of_ble_eq_true rfl) (Nat.le_of_ble_eq_true rfl) (Nat.le_of_ble_eq_true rfl)) dX10_copy_307 (fun x307 mem307 hx307 => ?_)
          refine g_istore hC dX10_copy_310 (Nat.le_of_ble_eq_true rfl) ?_
          dsimp only [List.set]
          refine g_iinc hC dX10_copy_312 rfl ?_
          dsimp only [List.set]
          refine g_goto (tgt := 243) hC dX10_copy_315 (by decide) ?_
          first
          | (refine J243 _ _ cc 100 0 mem219 ms _ _ (by omega) (by omega) co.2.1 co.2.2.2.1 (hvL.st hx219.2.2 (by decide)) (hvM.st hx219.2.2 (by decide)) kM (fun i x hi hx => ?_) (hx219.2.2.mono (by decide)) hx219.2.1 (by rw [cnt_flt co.2.2.1]; exact co.2.2.2.2.2.2.1) (by rw [hfin]; exact cpF_eq co.2.2.1)
             exact absurd (getD_ltM (by rw [hx]; simp)) (by omega))
          | (have e1 : (if flt n j = true then cp1 rp ns f j t (tn w j) else ns) = ns := by
               by_cases q : flt n j = true
               · rw [if_pos q] at hv0 ⊢
                 exact cp1_no (Or.inl (by omega))
               · rw [if_neg q]
             rw [e1] at st d10
             exact ih m1 ns _ _ d4 d5 d6 d7 d8 d11 st d10)
          | (have e1 : cp1 rp ns f j t (tn w j) = ns := nw_skip d7 (by omega)
             rw [e1, ite_self] at st d10
             exact ih m1 ns _ _ d4 d5 d6 d7 d8 d11 st d10)
          | (obtain ⟨-, -, h308⟩ := hx307
             obtain ⟨h309, h310⟩ := h308 rfl
             rw [if_pos fl] at st d10
             have okn := okM_cp1 (rp := rp) (f := f) (n := j) (t := t) (w := tn w j) d6 ⟨d2.1, by omega⟩ (tn_le d3 (by omega)) (fun _ q => rm_room d9 fl hs q)
             have nwn := nw_step (rp := rp) (f := f) (j := j) d7
             exact ih mem307 _ _ _ (d4.st h310 (by decide)) h309 okn nwn ((d8.trans h310).mono (by decide)) (d11.st h310 (by decide)) st d10)
      · refine g_goto (tgt := 312) hC dX10_copy_286 (by decide) ?_
        refine g_iinc hC dX10_copy_312 rfl ?_
        dsimp only [List.set]
        refine g_goto (tgt := 243) hC dX10_copy_315 (by decide) ?_
        first
        | (refine J243 _ _ cc 100 0 mem219 ms _ _ (by omega) (by omega) co.2.1 co.2.2.2.1 (hvL.st hx219.2.2 (by decide)) (hvM.st hx219.2.2 (by decide)) kM (fun i x hi hx => ?_) (hx219.2.2.mono (by decide)) hx219.2.1 (by rw [cnt_flt co.2.2.1]; exact co.2.2.2.2.2.2.1) (by rw [hfin]; exact cpF_eq co.2.2.1)
           exact absurd (getD_ltM (by rw [hx]; simp)) (by omega))
        | (have e1 : (if flt n j = true then cp1 rp ns f j t (tn w j) else ns) = ns := by
             by_cases q : flt n j = true
             · rw [if_pos q] at hv0 ⊢
               exact cp1_no (Or.inl (by omega))
             · rw [if_neg q]
           rw [e1] at st d10
           exact ih m1 ns _ _ d4 d5 d6 d7 d8 d11 st d10)
        | (have e1 : cp1 rp ns f j t (tn w j) = ns := nw_skip d7 (by omega)
           rw [e1, ite_self] at st d10
           exact ih m1 ns _ _ d4 d5 d6 d7 d8 d11 st d10)
        | (obtain ⟨-, -, h308⟩ := hx307
           obtain ⟨h309, h310⟩ := h308 rfl
           rw [if_pos fl] at st d10
           have okn := okM_cp1 (rp := rp) (f := f) (n := j) (t := t) (w := tn w j) d6 ⟨d2.1, by omega⟩ (tn_le d3 (by omega)) (fun _ q => rm_room d9 fl hs q)
           have nwn := nw_step (rp := rp) (f := f) (j := j) d7
           exact ih mem307 _ _ _ (d4.st h310 (by decide)) h309 okn nwn ((d8.trans h310).mono (by decide)) (d11.st h310 (by decide)) st d10)
  have J243 : ∀ (S D : Int), cpC rp ms f t n w = 0 ∨ cpC rp ms f t n w = 4 → ∀ (k : Nat) (j : Int) (m1 : Nat → Nat → Int) (ns : List (Option MemT)) o10 o11, j + k = 100 → 0 ≤ j → (1 ≤ t ∧ t ≤ rp.length) → (w = -1 ∨ (0 ≤ w ∧ w < 100)) → vL m B m1 rp → vM m B m1 ns → okM ns → nwI ms.length t w ns → chF m B mem0 m1 [2, 5, 6, 7, 9, 10, 11, 33, 34] → vT m m1 (stG g (cpC rp ms f t n w)) y (stZ y z (cpC rp ms f t n w)) → ns.length + cnt (fun i => flt n i && frsB ns f t w i) k j ≤ 80 → cpF rp f t w n k j ns = cpyS rp ms f t n w y → gG X sh rf m1 0 0 243 [some (.ref m), some (.int (iI f)), some (.int (iI t)), some (.int (iI n)), some (.int (iI w)), some (.int (iI S)), some (.int (iI D)), some (.int (iI (cpC rp ms f t n w))), some (.int (iI ms.length)), some (.int (iI j)), o10, o11] [] := by
    intro S D cc k
    induction k with
    | zero =>
      intro j m1 ns o10 o11 d0 d1 d2 d3 d4 d5 d6 d7 d8 d11 d9 d10
      refine g_iload hC dX10_copy_243 rfl ?_
      refine g_bipush hC dX10_copy_245 (by decide +kernel) ?_
      refine g_icmp_ge (tgt := 318) hC dX10_copy_247 (by decide) ⟨by omega, by omega⟩ ⟨by omega, by omega⟩ (fun h247 => ?_) (fun h247 => ?_)
      · refine g_iload hC dX10_copy_318 rfl ?_
        refine g_iret hC hI rfl dX10_copy_320 (Nat.le_of_ble_eq_true rfl) (Nat.le_of_ble_eq_true rfl) ⟨rfl, rfl, _, rfl, ?_⟩
        have d12 : ns = cpyS rp ms f t n w y := d10
        rw [← d12]
        exact ⟨rfl, ⟨d4, d5, hvS.st d8 (by decide), hvC.st d8 (by decide), hvD.st d8 (by decide), hvO.st d8 (by decide), hvI.st d8 (by decide), d11⟩, chA.trans hc0.2 d8.2⟩
      · exfalso; omega
    | succ k ih =>
      intro j m1 ns o10 o11 d0 d1 d2 d3 d4 d5 d6 d7 d8 d11 d9 d10
      refine g_iload hC dX10_copy_243 rfl ?_
      refine g_bipush hC dX10_copy_245 (by decide +kernel) ?_
      refine g_icmp_ge (tgt := 318) hC dX10_copy_247 (by decide) ⟨by omega, by omega⟩ ⟨by omega, by omega⟩ (fun h247 => ?_) (fun h247 => ?_)
      · exfalso; omega
      · refine g_iload_n hC dX10_copy_250 rfl ?_
        refine g_iconst hC dX10_copy_251 ?_
        refine g_icmp_eq (tgt := 261) hC dX10_copy_252 (by decide) ⟨by omega, by omega⟩ ⟨by omega, by omega⟩ (fun h252 => ?_) (fun h252 => ?_)
        · refine g_aload_n hC dX10_copy_261 rfl ?_
          refine g_iload_n hC dX10_copy_262 rfl ?_
          refine g_iload hC dX10_copy_263 rfl ?_
          refine g_VP hC (kX10_memberOf (gl X) (gD X) (gac X) m B ns f j hM9 d5 d6 i_f ⟨by omega, by omega⟩) cvX10_memberOf lkX10_103 (by assumption) rfl rfl (Nat.le_of_ble_eq_true rfl) (hI.fit (Nat.le_of_ble_eq_true rfl) (Nat.le_of_ble_eq_true rfl) (Nat.le_of_ble_eq_true rfl)) dX10_copy_265 (fun x265 hx265 => ?_)
          subst hx265
          have le1 := memS_le f j ns
          have le3 := d6.1
          refine g_goto (tgt := 272) hC dX10_copy_268 (by decide) ?_
          first
          | exact K272 S D k j m1 ns _ _ _ (by omega) d1 d2 d3 d4 d5 d6 d7 d8 d11 d9 d10 (fun m2 ns2 p10 p11 u1 u2 u3 u4 u5 u6 u7 u8 => ih (j + 1) m2 ns2 p10 p11 (by omega) (by omega) d2 d3 u1 u2 u3 u4 u5 u6 u7 u8) (by rw [if_pos (by simp [flt]; omega)])
          | exact K272 S D k j m1 ns _ _ _ (by omega) d1 d2 d3 d4 d5 d6 d7 d8 d11 d9 d10 (fun m2 ns2 p10 p11 u1 u2 u3 u4 u5 u6 u7 u8 => ih (j + 1) m2 ns2 p10 p11 (by omega) (by omega) d2 d3 u1 u2 u3 u4 u5 u6 u7 u8) (by rw [if_neg (by simp [flt]; omega)])
        · refine g_iload hC dX10_copy_255 rfl ?_
          refine g_iload_n hC dX10_copy_257 rfl ?_
          refine g_icmp_ne (tgt := 271) hC dX10_copy_258 (by decide) ⟨by omega, by omega⟩ ⟨by omega, by omega⟩ (fun h258 => ?_) (fun h258 => ?_)
          · refine g_iconst hC dX10_copy_271 ?_
            first
            | exact K272 S D k j m1 ns _ _ _ (by omega) d1 d2 d3 d4 d5 d6 d7 d8 d11 d9 d10 (fun m2 ns2 p10 p11 u1 u2 u3 u4 u5 u6 u7 u8 => ih (j + 1) m2 ns2 p10 p11 (by omega) (by omega) d2 d3 u1 u2 u3 u4 u5 u6 u7 u8) (by rw [if_pos (by simp [flt]; omega)])
            | exact K272 S D k j m1 ns _ _ _ (by omega) d1 d2 d3 d4 d5 d6 d7 d8 d11 d9 d10 (fun m2 ns2 p10 p11 u1 u2 u3 u4 u5 u6 u7 u8 => ih (j + 1) m2 ns2 p10 p11 (by omega) (by omega) d2 d3 u1 u2 u3 u4 u5 u6 u7 u8) (by rw [if_neg (by simp [flt]; omega)])
          · refine g_aload_n hC dX10_copy_261 rfl ?_
            refine g_iload_n hC dX10_copy_262 rfl ?_
            refine g_iload hC dX10_copy_263 rfl ?_
            refine g_VP hC (kX10_memberOf (gl X) (gD X) (gac X) m B ns f j hM9 d5 d6 i_f ⟨by omega, by omega⟩) cvX10_memberOf lkX10_103 (by assumption) rfl rfl (Nat.le_of_ble_eq_true rfl) (hI.fit (Nat.le_of_ble_eq_true rfl) (Nat.le_of_ble_eq_true rfl) (Nat.le_of_ble_eq_true rfl)) dX10_copy_265 (fun x265 hx265 => ?_)
            subst hx265
            have le1 := memS_le f j ns
            have le3 := d6.1
            refine g_goto (tgt := 272) hC dX10_copy_268 (by decide) ?_
            first
            | exact K272 S D k j m1 ns _ _ _ (by omega) d1 d2 d3 d4 d5 d6 d7 d8 d11 d9 d10 (fun m2 ns2 p10 p11 u1 u2 u3 u4 u5 u6 u7 u8 => ih (j + 1) m2 ns2 p10 p11 (by omega) (by omega) d2 d3 u1 u2 u3 u4 u5 u6 u7 u8) (by rw [if_pos (by simp [flt]; omega)])
            | exact K272 S D k j m1 ns _ _ _ (by omega) d1 d2 d3 d4 d5 d6 d7 d8 d11 d9 d10 (fun m2 ns2 p10 p11 u1 u2 u3 u4 u5 u6 u7 u8 => ih (j + 1) m2 ns2 p10 p11 (by omega) (by omega) d2 d3 u1 u2 u3 u4 u5 u6 u7 u8) (by rw [if_neg (by simp [flt]; omega)])
  have J216 : (1 ≤ f ∧ f ≤ rp.length) ∧ 1 ≤ t ∧ t ≤ rp.length → (n = -1 ∨ (0 ≤ n ∧ n < 100)) ∧ (w = -1 ∨ (0 ≤ w ∧ w < 100)) → cpC rp ms f t n w = (if N1 = 0 ∨ (w ≠ -1 ∧ 1 < N1) then 8 else if 80 < ms.length + N2 then 12 else if 0 < N3 then 4 else 0) → ∀ (S D : Int) o8 o9 o10 o11, gG X sh rf mem0 0 0 216 [some (.ref m), some (.int (iI f)), some (.int (iI t)), some (.int (iI n)), some (.int (iI w)), some (.int (iI S)), some (.int (iI D)), some (.int (iI (cpC rp ms f t n w))), o8, o9, o10, o11] [] := by
    intro hlf hnw spec S D o8 o9 o10 o11
    have c0 : 0 ≤ cpC rp ms f t n w := by
      rw [spec]
      split
      · omega
      · split
        · omega
        · split <;> omega
    refine g_aload_n hC dX10_copy_216 rfl ?_
    refine g_iload hC dX10_copy_217 rfl ?_
    refine g_VM hC (kX10_acts (gl X) (gD X) (gac X) m B g y z _ hM9 hvT kT ⟨c0, cle.2⟩) cvX10_acts lkX10_151 (by assumption) rfl rfl (Nat.le_of_ble_eq_true rfl) (hI.fit (Nat.le_of_ble_eq_true rfl) (Nat.le_of_ble_eq_true rfl) (Nat.le_of_ble_eq_true rfl)) dX10_copy_219 (fun x219 mem219 hx219 => ?_)
    refine g_if_eq (tgt := 231) hC dX10_copy_222 (by decide) ⟨by omega, by omega⟩ (fun h222 => ?_) (fun h222 => ?_)
    · refine g_iload hC dX10_copy_231 rfl ?_
      refine g_iret hC hI rfl dX10_copy_233 (Nat.le_of_ble_eq_true rfl) (Nat.le_of_ble_eq_true rfl) ⟨rfl, rfl, _, rfl, ?_⟩
      obtain ⟨a1, a2, a3⟩ := hx219
      have e9 : cpyS rp ms f t n w y = ms := by rw [cpyS, if_neg (by omega)]
      rw [e9]
      exact ⟨rfl, ⟨hvL.st a3 (by decide), hvM.st a3 (by decide), hvS.st a3 (by decide), hvC.st a3 (by decide), hvD.st a3 (by decide), hvO.st a3 (by decide), hvI.st a3 (by decide), a2⟩, chA.trans hc0.2 a3.2⟩
    · refine g_iload hC dX10_copy_225 rfl ?_
      refine g_iconst hC dX10_copy_227 ?_
      refine g_icmp_le (tgt := 234) hC dX10_copy_228 (by decide) ⟨by omega, by omega⟩ ⟨by omega, by omega⟩ (fun h228 => ?_) (fun h228 => ?_)
      · have y0 : y = 0 := by omega
        have cc : cpC rp ms f t n w = 0 ∨ cpC rp ms f t n w = 4 := by
          rw [spec] at h228 ⊢
          split at h228
          · omega
          · next q1 =>
            split at h228
            · omega
            · next q2 =>
              rw [if_neg q1, if_neg q2]
              split <;> omega
        have co := cpC_ok cc
        have l219 : mem219 m 2 = ms.length := by rw [(hx219.2.2.1 2 (by decide)).1]; exact l2
        have hfin : cpyS rp ms f t n w y = cpN rp f t w (nK n) (nF n) ms := by rw [cpyS, if_pos ⟨y0, cc⟩]
        refine g_aload_n hC dX10_copy_234 rfl ?_
        refine g_getI hC fdX10_90 (by assumption) dX10_copy_235 ?_
        rw [l219]
        refine g_istore hC dX10_copy_238 (Nat.le_of_ble_eq_true rfl) ?_
        dsimp only [List.set]
        refine g_iconst hC dX10_copy_240 ?_
        refine g_istore hC dX10_copy_241 (Nat.le_of_ble_eq_true rfl) ?_
        dsimp only [List.set]
        first
        | (refine J243 _ _ cc 100 0 mem219 ms _ _ (by omega) (by omega) co.2.1 co.2.2.2.1 (hvL.st hx219.2.2 (by decide)) (hvM.st hx219.2.2 (by decide)) kM (fun i x hi hx => ?_) (hx219.2.2.mono (by decide)) hx219.2.1 (by rw [cnt_flt co.2.2.1]; exact co.2.2.2.2.2.2.1) (by rw [hfin]; exact cpF_eq co.2.2.1)
           exact absurd (getD_ltM (by rw [hx]; simp)) (by omega))
        | (have e1 : (if flt n j = true then cp1 rp ns f j t (tn w j) else ns) = ns := by
             by_cases q : flt n j = true
             · rw [if_pos q] at hv0 ⊢
               exact cp1_no (Or.inl (by omega))
             · rw [if_neg q]
           rw [e1] at st d10
           exact ih m1 ns _ _ d4 d5 d6 d7 d8 d11 st d10)
        | (have e1 : cp1 rp ns f j t (tn w j) = ns := nw_skip d7 (by omega)
           rw [e1, ite_self] at st d10
           exact ih m1 ns _ _ d4 d5 d6 d7 d8 d11 st d10)
        | (obtain ⟨-, -, h308⟩ := hx307
           obtain ⟨h309, h310⟩ := h308 rfl
           rw [if_pos fl] at st d10
           have okn := okM_cp1 (rp := rp) (f := f) (n := j) (t := t) (w := tn w j) d6 ⟨d2.1, by omega⟩ (tn_le d3 (by omega)) (fun _ q => rm_room d9 fl hs q)
           have nwn := nw_step (rp := rp) (f := f) (j := j) d7
           exact ih mem307 _ _ _ (d4.st h310 (by decide)) h309 okn nwn ((d8.trans h310).mono (by decide)) (d11.st h310 (by decide)) st d10)
      · refine g_iload hC dX10_copy_231 rfl ?_
        refine g_iret hC hI rfl dX10_copy_233 (Nat.le_of_ble_eq_true rfl) (Nat.le_of_ble_eq_true rfl) ⟨rfl, rfl, _, rfl, ?_⟩
        obtain ⟨a1, a2, a3⟩ := hx219
        have e9 : cpyS rp ms f t n w y = ms := by rw [cpyS, if_neg (by omega)]
        rw [e9]
        exact ⟨rfl, ⟨hvL.st a3 (by decide), hvM.st a3 (by decide), hvS.st a3 (by decide), hvC.st a3 (by decide), hvD.st a3 (by decide), hvO.st a3 (by decide), hvI.st a3 (by decide), a2⟩, chA.trans hc0.2 a3.2⟩
  have J176 : (1 ≤ f ∧ f ≤ rp.length) ∧ 1 ≤ t ∧ t ≤ rp.length → (n = -1 ∨ (0 ≤ n ∧ n < 100)) ∧ (w = -1 ∨ (0 ≤ w ∧ w < 100)) → ∀ (i : Int) o9 o10 o11, gG X sh rf mem0 0 0 176 [some (.ref m), some (.int (iI f)), some (.int (iI t)), some (.int (iI n)), some (.int (iI w)), some (.int (iI (N1))), some (.int (iI (N2))), some (.int (iI (if 0 < N3 then (4 : Int) else 0))), some (.int (iI i)), o9, o10, o11] [] := by
    intro hlf hnw i o9 o10 o11
    have L1 : N1 ≤ 100 := by rw [hN1]; exact cnt_le _ _
    have L2 : N2 ≤ 100 := by rw [hN2]; exact cnt_le _ _
    have L3 : N3 ≤ 100 := by rw [hN3]; exact cnt_le _ _
    have spec : cpC rp ms f t n w = if N1 = 0 ∨ (w ≠ -1 ∧ 1 < N1) then 8 else if 80 < ms.length + N2 then 12 else if 0 < N3 then 4 else 0 := by
      rw [cpC, if_neg (fun q => q hlf), if_neg (fun q => q hnw), hN1, hN2, hN3, cnt_flt hnw.1 (srcB ms f), cnt_flt hnw.1 (frsB ms f t w), cnt_flt hnw.1 (lftB rp ms f t w)]
      rfl
    refine g_iload hC dX10_copy_176 rfl ?_
    refine g_if_eq (tgt := 193) hC dX10_copy_178 (by decide) ⟨by omega, by omega⟩ (fun h178 => ?_) (fun h178 => ?_)
    · refine g_bipush hC dX10_copy_193 (by decide +kernel) ?_
      refine g_topI (a := cpC rp ms f t n w) (by rw [spec, if_pos (by omega)]) ?_
      refine g_istore hC dX10_copy_195 (Nat.le_of_ble_eq_true rfl) ?_
      dsimp only [List.set]
      refine g_goto (tgt := 216) hC dX10_copy_197 (by decide) ?_
      first
      | (have hE : (if 0 < N3 then (4 : Int) else 0) = cpC rp ms f t n w := by rw [spec, if_neg (show ¬ (N1 = 0 ∨ (w ≠ -1 ∧ 1 < N1)) by omega), if_neg (show ¬ (80 < ms.length + N2) by omega)]
         rw [hE]
         exact J216 hlf hnw spec _ _ _ _ _ _)
      | exact J216 hlf hnw spec _ _ _ _ _ _
    · refine g_iload hC dX10_copy_181 rfl ?_
      refine g_iconst hC dX10_copy_183 ?_
      refine g_icmp_le (tgt := 200) hC dX10_copy_184 (by decide) ⟨by omega, by omega⟩ ⟨by omega, by omega⟩ (fun h184 => ?_) (fun h184 => ?_)
      · refine g_aload_n hC dX10_copy_200 rfl ?_
        refine g_getI hC fdX10_90 (by assumption) dX10_copy_201 ?_
        refine g_iload hC dX10_copy_204 rfl ?_
        refine g_iadd hC dX10_copy_206 ?_
        refine g_bipush hC dX10_copy_207 (by decide +kernel) ?_
        refine g_icmp_le (tgt := 216) hC dX10_copy_209 (by decide) ⟨by omega, by omega⟩ ⟨by omega, by omega⟩ (fun h209 => ?_) (fun h209 => ?_)
        · first
          | (have hE : (if 0 < N3 then (4 : Int) else 0) = cpC rp ms f t n w := by rw [spec, if_neg (show ¬ (N1 = 0 ∨ (w ≠ -1 ∧ 1 < N1)) by omega), if_neg (show ¬ (80 < ms.length + N2) by omega)]
             rw [hE]
             exact J216 hlf hnw spec _ _ _ _ _ _)
          | exact J216 hlf hnw spec _ _ _ _ _ _
        · refine g_bipush hC dX10_copy_212 (by decide +kernel) ?_
          refine g_topI (a := cpC rp ms f t n w) (by rw [spec, if_neg (by omega), if_pos (by omega)]) ?_
          refine g_istore hC dX10_copy_214 (Nat.le_of_ble_eq_true rfl) ?_
          dsimp only [List.set]
          first
          | (have hE : (if 0 < N3 then (4 : Int) else 0) = cpC rp ms f t n w := by rw [spec, if_neg (show ¬ (N1 = 0 ∨ (w ≠ -1 ∧ 1 < N1)) by omega), if_neg (show ¬ (80 < ms.length + N2) by omega)]
             rw [hE]
             exact J216 hlf hnw spec _ _ _ _ _ _)
          | exact J216 hlf hnw spec _ _ _ _ _ _
      · refine g_iload hC dX10_copy_187 rfl ?_
        refine g_iconst hC dX10_copy_189 ?_
        refine g_icmp_eq (tgt := 200) hC dX10_copy_190 (by decide) ⟨by omega, by omega⟩ ⟨by omega, by omega⟩ (fun h190 => ?_) (fun h190 => ?_)
        · refine g_aload_n hC dX10_copy_200 rfl ?_
          refine g_getI hC fdX10_90 (by assumption) dX10_copy_201 ?_
          refine g_iload hC dX10_copy_204 rfl ?_
          refine g_iadd hC dX10_copy_206 ?_
          refine g_bipush hC dX10_copy_207 (by decide +kernel) ?_
          refine g_icmp_le (tgt := 216) hC dX10_copy_209 (by decide) ⟨by omega, by omega⟩ ⟨by omega, by omega⟩ (fun h209 => ?_) (fun h209 => ?_)
          · first
            | (have hE : (if 0 < N3 then (4 : Int) else 0) = cpC rp ms f t n w := by rw [spec, if_neg (show ¬ (N1 = 0 ∨ (w ≠ -1 ∧ 1 < N1)) by omega), if_neg (show ¬ (80 < ms.length + N2) by omega)]
               rw [hE]
               exact J216 hlf hnw spec _ _ _ _ _ _)
            | exact J216 hlf hnw spec _ _ _ _ _ _
          · refine g_bipush hC dX10_copy_212 (by decide +kernel) ?_
            refine g_topI (a := cpC rp ms f t n w) (by rw [spec, if_neg (by omega), if_pos (by omega)]) ?_
            refine g_istore hC dX10_copy_214 (Nat.le_of_ble_eq_true rfl) ?_
            dsimp only [List.set]
            first
            | (have hE : (if 0 < N3 then (4 : Int) else 0) = cpC rp ms f t n w := by rw [spec, if_neg (show ¬ (N1 = 0 ∨ (w ≠ -1 ∧ 1 < N1)) by omega), if_neg (show ¬ (80 < ms.length + N2) by omega)]
               rw [hE]
               exact J216 hlf hnw spec _ _ _ _ _ _)
            | exact J216 hlf hnw spec _ _ _ _ _ _
        · refine g_bipush hC dX10_copy_193 (by decide +kernel) ?_
          refine g_topI (a := cpC rp ms f t n w) (by rw [spec, if_pos (by omega)]) ?_
          refine g_istore hC dX10_copy_195 (Nat.le_of_ble_eq_true rfl) ?_
          dsimp only [List.set]
          refine g_goto (tgt := 216) hC dX10_copy_197 (by decide) ?_
          first
          | (have hE : (if 0 < N3 then (4 : Int) else 0) = cpC rp ms f t n w := by rw [spec, if_neg (show ¬ (N1 = 0 ∨ (w ≠ -1 ∧ 1 < N1)) by omega), if_neg (show ¬ (80 < ms.length + N2) by omega)]
             rw [hE]
             exact J216 hlf hnw spec _ _ _ _ _ _)
          | exact J216 hlf hnw spec _ _ _ _ _ _
  have K119 : ∀ (k : Nat) (i : Int) (s d l : Nat) o11, 0 ≤ i → i < 100 → 1 ≤ t ∧ t ≤ rp.length → (w = -1 ∨ (0 ≤ w ∧ w < 100)) → s + cnt (fun j => flt n j && srcB ms f j) (k + 1) i = N1 → d + cnt (fun j => flt n j && frsB ms f t w j) (k + 1) i = N2 → l + cnt (fun j => flt n j && lftB rp ms f t w j) (k + 1) i = N3 → flt n i = true → memS ms f i ≠ 0 → (∀ (s d l : Nat) o9 o10 o11, s + cnt (fun j => flt n j && srcB ms f j) k (i + 1) = N1 → d + cnt (fun j => flt n j && frsB ms f t w j) k (i + 1) = N2 → l + cnt (fun j => flt n j && lftB rp ms f t w j) k (i + 1) = N3 → gG X sh rf mem0 0 0 65 [some (.ref m), some (.int (iI f)), some (.int (iI t)), some (.int (iI n)), some (.int (iI w)), some (.int (iI s)), some (.int (iI d)), some (.int (iI (if 0 < l then (4 : Int) else 0))), some (.int (iI (i + 1))), o9, o10, o11] []) → gG X sh rf mem0 0 0 119 [some (.ref m), some (.int (iI f)), some (.int (iI t)), some (.int (iI n)), some (.int (iI w)), some (.int (iI s)), some (.int (iI d)), some (.int (iI (if 0 < l then (4 : Int) else 0))), some (.int (iI i)), some (.int (iI (memS ms f i))), some (.int (iI (tn w i))), o11] [] := by
    intro k i s d l o11 c1 c2 c6 c7 c3 c4 c5 fl hs ih
    have cif : 0 ≤ (if 0 < l then (4 : Int) else 0) ∧ (if 0 < l then (4 : Int) else 0) ≤ 4 := by split <;> omega
    have tl := tn_le c7 (show 0 ≤ i ∧ i < 100 by omega)
    rw [cnt_t (by rw [fl]; simp [srcB, hs])] at c3
    refine g_iinc hC dX10_copy_119 rfl ?_
    dsimp only [List.set]
    refine g_iload hC dX10_copy_122 rfl ?_
    refine g_aload_n hC dX10_copy_124 rfl ?_
    refine g_iload_n hC dX10_copy_125 rfl ?_
    refine g_iload hC dX10_copy_126 rfl ?_
    refine g_VP hC (kX10_memberOf (gl X) (gD X) (gac X) m B ms t (tn w i) hM9 hvM kM i_t ⟨by omega, by omega⟩) cvX10_memberOf lkX10_103 (by assumption) rfl rfl (Nat.le_of_ble_eq_true rfl) (hI.fit (Nat.le_of_ble_eq_true rfl) (Nat.le_of_ble_eq_true rfl) (Nat.le_of_ble_eq_true rfl)) dX10_copy_128 (fun x128 hx128 => ?_)
    subst hx128
    have le2 := memS_le t (tn w i) ms
    refine g_if_ne (tgt := 138) hC dX10_copy_131 (by decide) ⟨by omega, by omega⟩ (fun h131 => ?_) (fun h131 => ?_)
    · refine g_iconst hC dX10_copy_138 ?_
      refine g_iadd hC dX10_copy_139 ?_
      first
      | (have z6 : memS ms t (tn w i) = 0 := by omega
         obtain ⟨d2, hd2, ed2⟩ : ∃ d2 : Nat, d2 + cnt (fun j => flt n j && frsB ms f t w j) k (i + 1) = N2 ∧ (d : Int) + 1 = (d2 : Int) := ⟨d + 1, by rw [cnt_t (by rw [fl]; simp [frsB, hs, z6])] at c4; omega, by omega⟩
         rw [ed2])
      | (have z6 : memS ms t (tn w i) ≠ 0 := by omega
         obtain ⟨d2, hd2, ed2⟩ : ∃ d2 : Nat, d2 + cnt (fun j => flt n j && frsB ms f t w j) k (i + 1) = N2 ∧ (d : Int) + 0 = (d2 : Int) := ⟨d, by rw [cnt_f (by simp [frsB, z6])] at c4; exact c4, by omega⟩
         rw [ed2])
      refine g_istore hC dX10_copy_140 (Nat.le_of_ble_eq_true rfl) ?_
      dsimp only [List.set]
      refine g_aload_n hC dX10_copy_142 rfl ?_
      refine g_iload hC dX10_copy_143 rfl ?_
      refine g_iload_n hC dX10_copy_145 rfl ?_
      refine g_iload hC dX10_copy_146 rfl ?_
      refine g_iconst hC dX10_copy_148 ?_
      refine g_VM hC (kX10_one (gl X) (gD X) (gac X) m B rp ms f i t (tn w i) 0 hM9 hvL hvM kR kM hs c6 tl (Or.inl rfl) (fun w => absurd w (by decide))) cvX10_one lkX10_147 (by assumption) rfl rfl (Nat.le_of_ble_eq_true rfl) (hI.fit (Nat.le_of_ble_eq_true rfl) (Nat.le_of_ble_eq_true rfl) (Nat.le_of_ble_eq_true rfl)) dX10_copy_149 (fun x149 mem149 hx149 => ?_)
      obtain ⟨h149, h150, -⟩ := hx149
      obtain rfl := h150 rfl
      have r149 : 0 ≤ x149 ∧ x149 ≤ 4 := by rw [h149]; split <;> omega
      refine g_istore hC dX10_copy_152 (Nat.le_of_ble_eq_true rfl) ?_
      dsimp only [List.set]
      refine g_iload hC dX10_copy_154 rfl ?_
      refine g_iload hC dX10_copy_156 rfl ?_
      refine g_icmp_le (tgt := 166) hC dX10_copy_158 (by decide) ⟨by omega, by omega⟩ ⟨by omega, by omega⟩ (fun h158 => ?_) (fun h158 => ?_)
      · refine g_iload hC dX10_copy_166 rfl ?_
        obtain ⟨l2', hl2, el2, el3⟩ : ∃ l2' : Nat, l2' + cnt (fun j => flt n j && lftB rp ms f t w j) k (i + 1) = N3 ∧ ((if 0 < l then (4 : Int) else 0) < x149 → x149 = (if 0 < l2' then (4 : Int) else 0)) ∧ (x149 ≤ (if 0 < l then (4 : Int) else 0) → (if 0 < l then (4 : Int) else 0) = (if 0 < l2' then (4 : Int) else 0)) := by
          by_cases z : lftB rp ms f t w i = true
          · obtain ⟨z1, z2, z3, z4⟩ := lft_iff.mp z
            have : x149 = 4 := by rw [h149, if_pos ⟨z3, z2, z4⟩]
            refine ⟨l + 1, by rw [cnt_t (by rw [fl, z]; rfl)] at c5; omega, fun _ => by rw [if_pos (show 0 < l + 1 by omega)]; exact this, fun q => ?_⟩
            rw [if_pos (show 0 < l + 1 by omega)]
            by_cases w9 : 0 < l
            · rw [if_pos w9]
            · rw [if_neg w9] at q; omega
          · have : x149 = 0 := by
              rw [h149, if_neg]
              rintro ⟨z1, z2, z3⟩
              exact z (lft_iff.mpr ⟨hs, z2, z1, z3⟩)
            refine ⟨l, by rw [cnt_f (by rw [Bool.not_eq_true] at z; rw [z, Bool.and_false])] at c5; exact c5, fun q => ?_, fun _ => rfl⟩
            by_cases w9 : 0 < l
            · rw [if_pos w9] at q; omega
            · rw [if_neg w9] at q; omega
        first | rw [el2 (by omega)] | rw [el3 (by omega)]
        refine g_istore hC dX10_copy_168 (Nat.le_of_ble_eq_true rfl) ?_
        dsimp only [List.set]
        refine g_iinc hC dX10_copy_170 rfl ?_
        dsimp only [List.set]
        refine g_goto (tgt := 65) hC dX10_copy_173 (by decide) ?_
        first
        | exact J65 hlf hnw 100 0 0 0 0 none none none (by omega) (by omega) (by rw [hN1]; exact Nat.zero_add _) (by rw [hN2]; exact Nat.zero_add _) (by rw [hN3]; exact Nat.zero_add _)
        | exact ih (s + 1) d2 l2' _ _ _ (by omega) hd2 hl2
        | (have q : ∀ p : Int → Bool, (p i = true → srcB ms f i = true) → cnt (fun j => flt n j && p j) (k + 1) i = cnt (fun j => flt n j && p j) k (i + 1) := by
             intro p hp
             refine cnt_f ?_
             by_cases fl : flt n i = true
             · rw [if_pos fl] at hv0
               cases e : p i with
               | false => rw [Bool.and_false]
               | true =>
                 have := hp e
                 simp [srcB] at this
                 omega
             · rw [Bool.not_eq_true] at fl
               rw [fl]; rfl
           refine ih s d l _ _ _ ?_ ?_ ?_
           · rw [q (srcB ms f) (fun w => w)] at c3; exact c3
           · rw [q (frsB ms f t w) (fun w => by unfold frsB at w; rw [decide_eq_true_eq] at w; simp [srcB, w.1])] at c4; exact c4
           · rw [q (lftB rp ms f t w) (fun w => by unfold lftB at w; rw [decide_eq_true_eq] at w; simp [srcB, w.1])] at c5; exact c5)
      · refine g_iload hC dX10_copy_161 rfl ?_
        refine g_goto (tgt := 168) hC dX10_copy_163 (by decide) ?_
        obtain ⟨l2', hl2, el2, el3⟩ : ∃ l2' : Nat, l2' + cnt (fun j => flt n j && lftB rp ms f t w j) k (i + 1) = N3 ∧ ((if 0 < l then (4 : Int) else 0) < x149 → x149 = (if 0 < l2' then (4 : Int) else 0)) ∧ (x149 ≤ (if 0 < l then (4 : Int) else 0) → (if 0 < l then (4 : Int) else 0) = (if 0 < l2' then (4 : Int) else 0)) := by
          by_cases z : lftB rp ms f t w i = true
          · obtain ⟨z1, z2, z3, z4⟩ := lft_iff.mp z
            have : x149 = 4 := by rw [h149, if_pos ⟨z3, z2, z4⟩]
            refine ⟨l + 1, by rw [cnt_t (by rw [fl, z]; rfl)] at c5; omega, fun _ => by rw [if_pos (show 0 < l + 1 by omega)]; exact this, fun q => ?_⟩
            rw [if_pos (show 0 < l + 1 by omega)]
            by_cases w9 : 0 < l
            · rw [if_pos w9]
            · rw [if_neg w9] at q; omega
          · have : x149 = 0 := by
              rw [h149, if_neg]
              rintro ⟨z1, z2, z3⟩
              exact z (lft_iff.mpr ⟨hs, z2, z1, z3⟩)
            refine ⟨l, by rw [cnt_f (by rw [Bool.not_eq_true] at z; rw [z, Bool.and_false])] at c5; exact c5, fun q => ?_, fun _ => rfl⟩
            by_cases w9 : 0 < l
            · rw [if_pos w9] at q; omega
            · rw [if_neg w9] at q; omega
        first | rw [el2 (by omega)] | rw [el3 (by omega)]
        refine g_istore hC dX10_copy_168 (Nat.le_of_ble_eq_true rfl) ?_
        dsimp only [List.set]
        refine g_iinc hC dX10_copy_170 rfl ?_
        dsimp only [List.set]
        refine g_goto (tgt := 65) hC dX10_copy_173 (by decide) ?_
        first
        | exact J65 hlf hnw 100 0 0 0 0 none none none (by omega) (by omega) (by rw [hN1]; exact Nat.zero_add _) (by rw [hN2]; exact Nat.zero_add _) (by rw [hN3]; exact Nat.zero_add _)
        | exact ih (s + 1) d2 l2' _ _ _ (by omega) hd2 hl2
        | (have q : ∀ p : Int → Bool, (p i = true → srcB ms f i = true) → cnt (fun j => flt n j && p j) (k + 1) i = cnt (fun j => flt n j && p j) k (i + 1) := by
             intro p hp
             refine cnt_f ?_
             by_cases fl : flt n i = true
             · rw [if_pos fl] at hv0
               cases e : p i with
               | false => rw [Bool.and_false]
               | true =>
                 have := hp e
                 simp [srcB] at this
                 omega
             · rw [Bool.not_eq_true] at fl
               rw [fl]; rfl
           refine ih s d l _ _ _ ?_ ?_ ?_
           · rw [q (srcB ms f) (fun w => w)] at c3; exact c3
           · rw [q (frsB ms f t w) (fun w => by unfold frsB at w; rw [decide_eq_true_eq] at w; simp [srcB, w.1])] at c4; exact c4
           · rw [q (lftB rp ms f t w) (fun w => by unfold lftB at w; rw [decide_eq_true_eq] at w; simp [srcB, w.1])] at c5; exact c5)
    · refine g_iconst hC dX10_copy_134 ?_
      refine g_goto (tgt := 139) hC dX10_copy_135 (by decide) ?_
      refine g_iadd hC dX10_copy_139 ?_
      first
      | (have z6 : memS ms t (tn w i) = 0 := by omega
         obtain ⟨d2, hd2, ed2⟩ : ∃ d2 : Nat, d2 + cnt (fun j => flt n j && frsB ms f t w j) k (i + 1) = N2 ∧ (d : Int) + 1 = (d2 : Int) := ⟨d + 1, by rw [cnt_t (by rw [fl]; simp [frsB, hs, z6])] at c4; omega, by omega⟩
         rw [ed2])
      | (have z6 : memS ms t (tn w i) ≠ 0 := by omega
         obtain ⟨d2, hd2, ed2⟩ : ∃ d2 : Nat, d2 + cnt (fun j => flt n j && frsB ms f t w j) k (i + 1) = N2 ∧ (d : Int) + 0 = (d2 : Int) := ⟨d, by rw [cnt_f (by simp [frsB, z6])] at c4; exact c4, by omega⟩
         rw [ed2])
      refine g_istore hC dX10_copy_140 (Nat.le_of_ble_eq_true rfl) ?_
      dsimp only [List.set]
      refine g_aload_n hC dX10_copy_142 rfl ?_
      refine g_iload hC dX10_copy_143 rfl ?_
      refine g_iload_n hC dX10_copy_145 rfl ?_
      refine g_iload hC dX10_copy_146 rfl ?_
      refine g_iconst hC dX10_copy_148 ?_
      refine g_VM hC (kX10_one (gl X) (gD X) (gac X) m B rp ms f i t (tn w i) 0 hM9 hvL hvM kR kM hs c6 tl (Or.inl rfl) (fun w => absurd w (by decide))) cvX10_one lkX10_147 (by assumption) rfl rfl (Nat.le_of_ble_eq_true rfl) (hI.fit (Nat.le_of_ble_eq_true rfl) (Nat.le_of_ble_eq_true rfl) (Nat.le_of_ble_eq_true rfl)) dX10_copy_149 (fun x149 mem149 hx149 => ?_)
      obtain ⟨h149, h150, -⟩ := hx149
      obtain rfl := h150 rfl
      have r149 : 0 ≤ x149 ∧ x149 ≤ 4 := by rw [h149]; split <;> omega
      refine g_istore hC dX10_copy_152 (Nat.le_of_ble_eq_true rfl) ?_
      dsimp only [List.set]
      refine g_iload hC dX10_copy_154 rfl ?_
      refine g_iload hC dX10_copy_156 rfl ?_
      refine g_icmp_le (tgt := 166) hC dX10_copy_158 (by decide) ⟨by omega, by omega⟩ ⟨by omega, by omega⟩ (fun h158 => ?_) (fun h158 => ?_)
      · refine g_iload hC dX10_copy_166 rfl ?_
        obtain ⟨l2', hl2, el2, el3⟩ : ∃ l2' : Nat, l2' + cnt (fun j => flt n j && lftB rp ms f t w j) k (i + 1) = N3 ∧ ((if 0 < l then (4 : Int) else 0) < x149 → x149 = (if 0 < l2' then (4 : Int) else 0)) ∧ (x149 ≤ (if 0 < l then (4 : Int) else 0) → (if 0 < l then (4 : Int) else 0) = (if 0 < l2' then (4 : Int) else 0)) := by
          by_cases z : lftB rp ms f t w i = true
          · obtain ⟨z1, z2, z3, z4⟩ := lft_iff.mp z
            have : x149 = 4 := by rw [h149, if_pos ⟨z3, z2, z4⟩]
            refine ⟨l + 1, by rw [cnt_t (by rw [fl, z]; rfl)] at c5; omega, fun _ => by rw [if_pos (show 0 < l + 1 by omega)]; exact this, fun q => ?_⟩
            rw [if_pos (show 0 < l + 1 by omega)]
            by_cases w9 : 0 < l
            · rw [if_pos w9]
            · rw [if_neg w9] at q; omega
          · have : x149 = 0 := by
              rw [h149, if_neg]
              rintro ⟨z1, z2, z3⟩
              exact z (lft_iff.mpr ⟨hs, z2, z1, z3⟩)
            refine ⟨l, by rw [cnt_f (by rw [Bool.not_eq_true] at z; rw [z, Bool.and_false])] at c5; exact c5, fun q => ?_, fun _ => rfl⟩
            by_cases w9 : 0 < l
            · rw [if_pos w9] at q; omega
            · rw [if_neg w9] at q; omega
        first | rw [el2 (by omega)] | rw [el3 (by omega)]
        refine g_istore hC dX10_copy_168 (Nat.le_of_ble_eq_true rfl) ?_
        dsimp only [List.set]
        refine g_iinc hC dX10_copy_170 rfl ?_
        dsimp only [List.set]
        refine g_goto (tgt := 65) hC dX10_copy_173 (by decide) ?_
        first
        | exact J65 hlf hnw 100 0 0 0 0 none none none (by omega) (by omega) (by rw [hN1]; exact Nat.zero_add _) (by rw [hN2]; exact Nat.zero_add _) (by rw [hN3]; exact Nat.zero_add _)
        | exact ih (s + 1) d2 l2' _ _ _ (by omega) hd2 hl2
        | (have q : ∀ p : Int → Bool, (p i = true → srcB ms f i = true) → cnt (fun j => flt n j && p j) (k + 1) i = cnt (fun j => flt n j && p j) k (i + 1) := by
             intro p hp
             refine cnt_f ?_
             by_cases fl : flt n i = true
             · rw [if_pos fl] at hv0
               cases e : p i with
               | false => rw [Bool.and_false]
               | true =>
                 have := hp e
                 simp [srcB] at this
                 omega
             · rw [Bool.not_eq_true] at fl
               rw [fl]; rfl
           refine ih s d l _ _ _ ?_ ?_ ?_
           · rw [q (srcB ms f) (fun w => w)] at c3; exact c3
           · rw [q (frsB ms f t w) (fun w => by unfold frsB at w; rw [decide_eq_true_eq] at w; simp [srcB, w.1])] at c4; exact c4
           · rw [q (lftB rp ms f t w) (fun w => by unfold lftB at w; rw [decide_eq_true_eq] at w; simp [srcB, w.1])] at c5; exact c5)
      · refine g_iload hC dX10_copy_161 rfl ?_
        refine g_goto (tgt := 168) hC dX10_copy_163 (by decide) ?_
        obtain ⟨l2', hl2, el2, el3⟩ : ∃ l2' : Nat, l2' + cnt (fun j => flt n j && lftB rp ms f t w j) k (i + 1) = N3 ∧ ((if 0 < l then (4 : Int) else 0) < x149 → x149 = (if 0 < l2' then (4 : Int) else 0)) ∧ (x149 ≤ (if 0 < l then (4 : Int) else 0) → (if 0 < l then (4 : Int) else 0) = (if 0 < l2' then (4 : Int) else 0)) := by
          by_cases z : lftB rp ms f t w i = true
          · obtain ⟨z1, z2, z3, z4⟩ := lft_iff.mp z
            have : x149 = 4 := by rw [h149, if_pos ⟨z3, z2, z4⟩]
            refine ⟨l + 1, by rw [cnt_t (by rw [fl, z]; rfl)] at c5; omega, fun _ => by rw [if_pos (show 0 < l + 1 by omega)]; exact this, fun q => ?_⟩
            rw [if_pos (show 0 < l + 1 by omega)]
            by_cases w9 : 0 < l
            · rw [if_pos w9]
            · rw [if_neg w9] at q; omega
          · have : x149 = 0 := by
              rw [h149, if_neg]
              rintro ⟨z1, z2, z3⟩
              exact z (lft_iff.mpr ⟨hs, z2, z1, z3⟩)
            refine ⟨l, by rw [cnt_f (by rw [Bool.not_eq_true] at z; rw [z, Bool.and_false])] at c5; exact c5, fun q => ?_, fun _ => rfl⟩
            by_cases w9 : 0 < l
            · rw [if_pos w9] at q; omega
            · rw [if_neg w9] at q; omega
        first | rw [el2 (by omega)] | rw [el3 (by omega)]
        refine g_istore hC dX10_copy_168 (Nat.le_of_ble_eq_true rfl) ?_
        dsimp only [List.set]
        refine g_iinc hC dX10_copy_170 rfl ?_
        dsimp only [List.set]
        refine g_goto (tgt := 65) hC dX10_copy_173 (by decide) ?_
        first
        | exact J65 hlf hnw 100 0 0 0 0 none none none (by omega) (by omega) (by rw [hN1]; exact Nat.zero_add _) (by rw [hN2]; exact Nat.zero_add _) (by rw [hN3]; exact Nat.zero_add _)
        | exact ih (s + 1) d2 l2' _ _ _ (by omega) hd2 hl2
        | (have q : ∀ p : Int → Bool, (p i = true → srcB ms f i = true) → cnt (fun j => flt n j && p j) (k + 1) i = cnt (fun j => flt n j && p j) k (i + 1) := by
             intro p hp
             refine cnt_f ?_
             by_cases fl : flt n i = true
             · rw [if_pos fl] at hv0
               cases e : p i with
               | false => rw [Bool.and_false]
               | true =>
                 have := hp e
                 simp [srcB] at this
                 omega
             · rw [Bool.not_eq_true] at fl
               rw [fl]; rfl
           refine ih s d l _ _ _ ?_ ?_ ?_
           · rw [q (srcB ms f) (fun w => w)] at c3; exact c3
           · rw [q (frsB ms f t w) (fun w => by unfold frsB at w; rw [decide_eq_true_eq] at w; simp [srcB, w.1])] at c4; exact c4
           · rw [q (lftB rp ms f t w) (fun w => by unfold lftB at w; rw [decide_eq_true_eq] at w; simp [srcB, w.1])] at c5; exact c5)
  have K94 : ∀ (k : Nat) (i : Int) (s d l : Nat) o9 o10 o11 (v : Int), 0 ≤ i → i < 100 → 1 ≤ t ∧ t ≤ rp.length → (w = -1 ∨ (0 ≤ w ∧ w < 100)) → s + cnt (fun j => flt n j && srcB ms f j) (k + 1) i = N1 → d + cnt (fun j => flt n j && frsB ms f t w j) (k + 1) i = N2 → l + cnt (fun j => flt n j && lftB rp ms f t w j) (k + 1) i = N3 → (∀ (s d l : Nat) o9 o10 o11, s + cnt (fun j => flt n j && srcB ms f j) k (i + 1) = N1 → d + cnt (fun j => flt n j && frsB ms f t w j) k (i + 1) = N2 → l + cnt (fun j => flt n j && lftB rp ms f t w j) k (i + 1) = N3 → gG X sh rf mem0 0 0 65 [some (.ref m), some (.int (iI f)), some (.int (iI t)), some (.int (iI n)), some (.int (iI w)), some (.int (iI s)), some (.int (iI d)), some (.int (iI (if 0 < l then (4 : Int) else 0))), some (.int (iI (i + 1))), o9, o10, o11] []) → v = (if flt n i = true then (memS ms f i : Int) else 0) → gG X sh rf mem0 0 0 94 [some (.ref m), some (.int (iI f)), some (.int (iI t)), some (.int (iI n)), some (.int (iI w)), some (.int (iI s)), some (.int (iI d)), some (.int (iI (if 0 < l then (4 : Int) else 0))), some (.int (iI i)), o9, o10, o11] [.int (iI v)] := by
    intro k i s d l o9 o10 o11 v c1 c2 c6 c7 c3 c4 c5 ih hv0
    have vle : 0 ≤ v ∧ v ≤ 80 := by
      have h1 := memS_le f i ms
      rw [hv0]
      split <;> omega
    refine g_istore hC dX10_copy_94 (Nat.le_of_ble_eq_true rfl) ?_
    dsimp only [List.set]
    refine g_iload hC dX10_copy_96 rfl ?_
    refine g_if_ne (tgt := 104) hC dX10_copy_98 (by decide) ⟨by omega, by omega⟩ (fun h98 => ?_) (fun h98 => ?_)
    · have fl : flt n i = true := by
        apply Classical.byContradiction
        intro q
        rw [if_neg q] at hv0
        omega
      rw [if_pos fl] at hv0
      subst hv0
      have hs : memS ms f i ≠ 0 := by omega
      refine g_iload hC dX10_copy_104 rfl ?_
      refine g_iconst hC dX10_copy_106 ?_
      refine g_icmp_ne (tgt := 115) hC dX10_copy_107 (by decide) ⟨by omega, by omega⟩ ⟨by omega, by omega⟩ (fun h107 => ?_) (fun h107 => ?_)
      · refine g_iload hC dX10_copy_115 rfl ?_
        first | refine g_topI (a := tn w i) (by rw [tn_1 (by omega)]) ?_ | refine g_topI (a := tn w i) (by rw [tn_2 (by omega)]) ?_
        refine g_istore hC dX10_copy_117 (Nat.le_of_ble_eq_true rfl) ?_
        dsimp only [List.set]
        exact K119 k i s d l _ c1 c2 c6 c7 c3 c4 c5 fl hs ih
      · refine g_iload hC dX10_copy_110 rfl ?_
        refine g_goto (tgt := 117) hC dX10_copy_112 (by decide) ?_
        first | refine g_topI (a := tn w i) (by rw [tn_1 (by omega)]) ?_ | refine g_topI (a := tn w i) (by rw [tn_2 (by omega)]) ?_
        refine g_istore hC dX10_copy_117 (Nat.le_of_ble_eq_true rfl) ?_
        dsimp only [List.set]
        exact K119 k i s d l _ c1 c2 c6 c7 c3 c4 c5 fl hs ih
    · refine g_goto (tgt := 170) hC dX10_copy_101 (by decide) ?_
      refine g_iinc hC dX10_copy_170 rfl ?_
      dsimp only [List.set]
      refine g_goto (tgt := 65) hC dX10_copy_173 (by decide) ?_
      first
      | exact J65 hlf hnw 100 0 0 0 0 none none none (by omega) (by omega) (by rw [hN1]; exact Nat.zero_add _) (by rw [hN2]; exact Nat.zero_add _) (by rw [hN3]; exact Nat.zero_add _)
      | exact ih (s + 1) d2 l2' _ _ _ (by omega) hd2 hl2
      | (have q : ∀ p : Int → Bool, (p i = true → srcB ms f i = true) → cnt (fun j => flt n j && p j) (k + 1) i = cnt (fun j => flt n j && p j) k (i + 1) := by
           intro p hp
           refine cnt_f ?_
           by_cases fl : flt n i = true
           · rw [if_pos fl] at hv0
             cases e : p i with
             | false => rw [Bool.and_false]
             | true =>
               have := hp e
               simp [srcB] at this
               omega
           · rw [Bool.not_eq_true] at fl
             rw [fl]; rfl
         refine ih s d l _ _ _ ?_ ?_ ?_
         · rw [q (srcB ms f) (fun w => w)] at c3; exact c3
         · rw [q (frsB ms f t w) (fun w => by unfold frsB at w; rw [decide_eq_true_eq] at w; simp [srcB, w.1])] at c4; exact c4
         · rw [q (lftB rp ms f t w) (fun w => by unfold lftB at w; rw [decide_eq_true_eq] at w; simp [srcB, w.1])] at c5; exact c5)
  have J65 : (1 ≤ f ∧ f ≤ rp.length) ∧ 1 ≤ t ∧ t ≤ rp.length → (n = -1 ∨ (0 ≤ n ∧ n < 100)) ∧ (w = -1 ∨ (0 ≤ w ∧ w < 100)) → ∀ (k : Nat) (i : Int) (s d l : Nat) o9 o10 o11, i + k = 100 → 0 ≤ i → s + cnt (fun j => flt n j && srcB ms f j) k i = N1 → d + cnt (fun j => flt n j && frsB ms f t w j) k i = N2 → l + cnt (fun j => flt n j && lftB rp ms f t w j) k i = N3 → gG X sh rf mem0 0 0 65 [some (.ref m), some (.int (iI f)), some (.int (iI t)), some (.int (iI n)), some (.int (iI w)), some (.int (iI s)), some (.int (iI d)), some (.int (iI (if 0 < l then (4 : Int) else 0))), some (.int (iI i)), o9, o10, o11] [] := by
    intro hlf hnw k
    induction k with
    | zero =>
      intro i s d l o9 o10 o11 c1 c2 c3 c4 c5
      refine g_iload hC dX10_copy_65 rfl ?_
      refine g_bipush hC dX10_copy_67 (by decide +kernel) ?_
      refine g_icmp_ge (tgt := 176) hC dX10_copy_69 (by decide) ⟨by omega, by omega⟩ ⟨by omega, by omega⟩ (fun h69 => ?_) (fun h69 => ?_)
      · have z1 : s = N1 := c3
        have z2 : d = N2 := c4
        have z3 : l = N3 := c5
        rw [z1, z2, z3]
        exact J176 hlf hnw _ _ _ _
      · exfalso; omega
    | succ k ih =>
      intro i s d l o9 o10 o11 c1 c2 c3 c4 c5
      refine g_iload hC dX10_copy_65 rfl ?_
      refine g_bipush hC dX10_copy_67 (by decide +kernel) ?_
      refine g_icmp_ge (tgt := 176) hC dX10_copy_69 (by decide) ⟨by omega, by omega⟩ ⟨by omega, by omega⟩ (fun h69 => ?_) (fun h69 => ?_)
      · exfalso; omega
      · refine g_iload_n hC dX10_copy_72 rfl ?_
        refine g_iconst hC dX10_copy_73 ?_
        refine g_icmp_eq (tgt := 83) hC dX10_copy_74 (by decide) ⟨by omega, by omega⟩ ⟨by omega, by omega⟩ (fun h74 => ?_) (fun h74 => ?_)
        · refine g_aload_n hC dX10_copy_83 rfl ?_
          refine g_iload_n hC dX10_copy_84 rfl ?_
          refine g_iload hC dX10_copy_85 rfl ?_
          refine g_VP hC (kX10_memberOf (gl X) (gD X) (gac X) m B ms f i hM9 hvM kM i_f ⟨by omega, by omega⟩) cvX10_memberOf lkX10_103 (by assumption) rfl rfl (Nat.le_of_ble_eq_true rfl) (hI.fit (Nat.le_of_ble_eq_true rfl) (Nat.le_of_ble_eq_true rfl) (Nat.le_of_ble_eq_true rfl)) dX10_copy_87 (fun x87 hx87 => ?_)
          subst hx87
          have le1 := memS_le f i ms
          refine g_goto (tgt := 94) hC dX10_copy_90 (by decide) ?_
          first
          | exact K94 k i s d l _ _ _ _ c2 (by omega) hlf.2 hnw.2 c3 c4 c5 (fun s d l p9 p10 p11 u1 u2 u3 => ih (i + 1) s d l p9 p10 p11 (by omega) (by omega) u1 u2 u3) (by rw [if_pos (by simp [flt]; omega)])
          | exact K94 k i s d l _ _ _ _ c2 (by omega) hlf.2 hnw.2 c3 c4 c5 (fun s d l p9 p10 p11 u1 u2 u3 => ih (i + 1) s d l p9 p10 p11 (by omega) (by omega) u1 u2 u3) (by rw [if_neg (by simp [flt]; omega)])
        · refine g_iload hC dX10_copy_77 rfl ?_
          refine g_iload_n hC dX10_copy_79 rfl ?_
          refine g_icmp_ne (tgt := 93) hC dX10_copy_80 (by decide) ⟨by omega, by omega⟩ ⟨by omega, by omega⟩ (fun h80 => ?_) (fun h80 => ?_)
          · refine g_iconst hC dX10_copy_93 ?_
            first
            | exact K94 k i s d l _ _ _ _ c2 (by omega) hlf.2 hnw.2 c3 c4 c5 (fun s d l p9 p10 p11 u1 u2 u3 => ih (i + 1) s d l p9 p10 p11 (by omega) (by omega) u1 u2 u3) (by rw [if_pos (by simp [flt]; omega)])
            | exact K94 k i s d l _ _ _ _ c2 (by omega) hlf.2 hnw.2 c3 c4 c5 (fun s d l p9 p10 p11 u1 u2 u3 => ih (i + 1) s d l p9 p10 p11 (by omega) (by omega) u1 u2 u3) (by rw [if_neg (by simp [flt]; omega)])
          · refine g_aload_n hC dX10_copy_83 rfl ?_
            refine g_iload_n hC dX10_copy_84 rfl ?_
            refine g_iload hC dX10_copy_85 rfl ?_
            refine g_VP hC (kX10_memberOf (gl X) (gD X) (gac X) m B ms f i hM9 hvM kM i_f ⟨by omega, by omega⟩) cvX10_memberOf lkX10_103 (by assumption) rfl rfl (Nat.le_of_ble_eq_true rfl) (hI.fit (Nat.le_of_ble_eq_true rfl) (Nat.le_of_ble_eq_true rfl) (Nat.le_of_ble_eq_true rfl)) dX10_copy_87 (fun x87 hx87 => ?_)
            subst hx87
            have le1 := memS_le f i ms
            refine g_goto (tgt := 94) hC dX10_copy_90 (by decide) ?_
            first
            | exact K94 k i s d l _ _ _ _ c2 (by omega) hlf.2 hnw.2 c3 c4 c5 (fun s d l p9 p10 p11 u1 u2 u3 => ih (i + 1) s d l p9 p10 p11 (by omega) (by omega) u1 u2 u3) (by rw [if_pos (by simp [flt]; omega)])
            | exact K94 k i s d l _ _ _ _ c2 (by omega) hlf.2 hnw.2 c3 c4 c5 (fun s d l p9 p10 p11 u1 u2 u3 => ih (i + 1) s d l p9 p10 p11 (by omega) (by omega) u1 u2 u3) (by rw [if_neg (by simp [flt]; omega)])
  refine g_aload_n hC dX10_copy_0 rfl ?_
  refine g_iconst hC dX10_copy_1 ?_
  refine g_putI hC fdX10_84 (by assumption) rfl rfl dX10_copy_2 ?_
  rw [← e0]
  refine g_aload_n hC dX10_copy_5 rfl ?_
  refine g_iload_n hC dX10_copy_6 rfl ?_
  refine g_VP hC (kX10_isLibrary (gl X) (gD X) (gac X) m B rp f hM9 hvL kR i_f) cvX10_isLibrary lkX10_96 (by assumption) rfl rfl (Nat.le_of_ble_eq_true rfl) (hI.fit (Nat.le_of_ble_eq_true rfl) (Nat.le_of_ble_eq_true rfl) (Nat.le_of_ble_eq_true rfl)) dX10_copy_7 (fun x7 hx7 => ?_)
  refine g_if_eq (tgt := 21) hC dX10_copy_10 (by decide) ⟨by omega, by omega⟩ (fun h10 => ?_) (fun h10 => ?_)
  · refine g_bipush hC dX10_copy_21 (by decide +kernel) ?_
    refine g_iret hC hI rfl dX10_copy_23 (Nat.le_of_ble_eq_true rfl) (Nat.le_of_ble_eq_true rfl) ⟨rfl, rfl, _, rfl, ?_⟩
    have e8 : cpC rp ms f t n w = -2 := if_pos (by omega)
    have e9 : cpyS rp ms f t n w y = ms := by rw [cpyS, if_neg]; rw [e8]; omega
    rw [e9, e8, show stG g (-2) = g from rfl, show stZ y z (-2) = z from if_neg (by omega)]
    exact ⟨rfl, ⟨hV9, hc0.2⟩⟩
  · refine g_aload_n hC dX10_copy_13 rfl ?_
    refine g_iload_n hC dX10_copy_14 rfl ?_
    refine g_VP hC (kX10_isLibrary (gl X) (gD X) (gac X) m B rp t hM9 hvL kR i_t) cvX10_isLibrary lkX10_96 (by assumption) rfl rfl (Nat.le_of_ble_eq_true rfl) (hI.fit (Nat.le_of_ble_eq_true rfl) (Nat.le_of_ble_eq_true rfl) (Nat.le_of_ble_eq_true rfl)) dX10_copy_15 (fun x15 hx15 => ?_)
    refine g_if_ne (tgt := 24) hC dX10_copy_18 (by decide) ⟨by omega, by omega⟩ (fun h18 => ?_) (fun h18 => ?_)
    · refine g_iload_n hC dX10_copy_24 rfl ?_
      refine g_iconst hC dX10_copy_25 ?_
      refine g_icmp_eq (tgt := 36) hC dX10_copy_26 (by decide) ⟨by omega, by omega⟩ ⟨by omega, by omega⟩ (fun h26 => ?_) (fun h26 => ?_)
      · refine g_iload hC dX10_copy_36 rfl ?_
        refine g_iconst hC dX10_copy_38 ?_
        refine g_icmp_eq (tgt := 53) hC dX10_copy_39 (by decide) ⟨by omega, by omega⟩ ⟨by omega, by omega⟩ (fun h39 => ?_) (fun h39 => ?_)
        · have hlf : (1 ≤ f ∧ f ≤ rp.length) ∧ 1 ≤ t ∧ t ≤ rp.length := by omega
          have hnw : (n = -1 ∨ (0 ≤ n ∧ n < 100)) ∧ (w = -1 ∨ (0 ≤ w ∧ w < 100)) := by omega
          refine g_iconst hC dX10_copy_53 ?_
          refine g_istore hC dX10_copy_54 (Nat.le_of_ble_eq_true rfl) ?_
          dsimp only [List.set]
          refine g_iconst hC dX10_copy_56 ?_
          refine g_istore hC dX10_copy_57 (Nat.le_of_ble_eq_true rfl) ?_
          dsimp only [List.set]
          refine g_iconst hC dX10_copy_59 ?_
          refine g_istore hC dX10_copy_60 (Nat.le_of_ble_eq_true rfl) ?_
          dsimp only [List.set]
          refine g_iconst hC dX10_copy_62 ?_
          refine g_istore hC dX10_copy_63 (Nat.le_of_ble_eq_true rfl) ?_
          dsimp only [List.set]
          first
          | exact J65 hlf hnw 100 0 0 0 0 none none none (by omega) (by omega) (by rw [hN1]; exact Nat.zero_add _) (by rw [hN2]; exact Nat.zero_add _) (by rw [hN3]; exact Nat.zero_add _)
          | exact ih (s + 1) d2 l2' _ _ _ (by omega) hd2 hl2
          | (have q : ∀ p : Int → Bool, (p i = true → srcB ms f i = true) → cnt (fun j => flt n j && p j) (k + 1) i = cnt (fun j => flt n j && p j) k (i + 1) := by
               intro p hp
               refine cnt_f ?_
               by_cases fl : flt n i = true
               · rw [if_pos fl] at hv0
                 cases e : p i with
                 | false => rw [Bool.and_false]
                 | true =>
                   have := hp e
                   simp [srcB] at this
                   omega
               · rw [Bool.not_eq_true] at fl
                 rw [fl]; rfl
             refine ih s d l _ _ _ ?_ ?_ ?_
             · rw [q (srcB ms f) (fun w => w)] at c3; exact c3
             · rw [q (frsB ms f t w) (fun w => by unfold frsB at w; rw [decide_eq_true_eq] at w; simp [srcB, w.1])] at c4; exact c4
             · rw [q (lftB rp ms f t w) (fun w => by unfold lftB at w; rw [decide_eq_true_eq] at w; simp [srcB, w.1])] at c5; exact c5)
        · refine g_iload hC dX10_copy_42 rfl ?_
          refine g_SP hC (kX10_isName (gl X) (gD X) (gac X) w i_w) csX10_isName lkX10_100 rfl rfl (Nat.le_of_ble_eq_true rfl) (hI.fit (Nat.le_of_ble_eq_true rfl) (Nat.le_of_ble_eq_true rfl) (Nat.le_of_ble_eq_true rfl)) dX10_copy_44 (fun x44 hx44 => ?_)
          refine g_if_ne (tgt := 53) hC dX10_copy_47 (by decide) ⟨by omega, by omega⟩ (fun h47 => ?_) (fun h47 => ?_)
          · have hlf : (1 ≤ f ∧ f ≤ rp.length) ∧ 1 ≤ t ∧ t ≤ rp.length := by omega
            have hnw : (n = -1 ∨ (0 ≤ n ∧ n < 100)) ∧ (w = -1 ∨ (0 ≤ w ∧ w < 100)) := by omega
            refine g_iconst hC dX10_copy_53 ?_
            refine g_istore hC dX10_copy_54 (Nat.le_of_ble_eq_true rfl) ?_
            dsimp only [List.set]
            refine g_iconst hC dX10_copy_56 ?_
            refine g_istore hC dX10_copy_57 (Nat.le_of_ble_eq_true rfl) ?_
            dsimp only [List.set]
            refine g_iconst hC dX10_copy_59 ?_
            refine g_istore hC dX10_copy_60 (Nat.le_of_ble_eq_true rfl) ?_
            dsimp only [List.set]
            refine g_iconst hC dX10_copy_62 ?_
            refine g_istore hC dX10_copy_63 (Nat.le_of_ble_eq_true rfl) ?_
            dsimp only [List.set]
            first
            | exact J65 hlf hnw 100 0 0 0 0 none none none (by omega) (by omega) (by rw [hN1]; exact Nat.zero_add _) (by rw [hN2]; exact Nat.zero_add _) (by rw [hN3]; exact Nat.zero_add _)
            | exact ih (s + 1) d2 l2' _ _ _ (by omega) hd2 hl2
            | (have q : ∀ p : Int → Bool, (p i = true → srcB ms f i = true) → cnt (fun j => flt n j && p j) (k + 1) i = cnt (fun j => flt n j && p j) k (i + 1) := by
                 intro p hp
                 refine cnt_f ?_
                 by_cases fl : flt n i = true
                 · rw [if_pos fl] at hv0
                   cases e : p i with
                   | false => rw [Bool.and_false]
                   | true =>
                     have := hp e
                     simp [srcB] at this
                     omega
                 · rw [Bool.not_eq_true] at fl
                   rw [fl]; rfl
               refine ih s d l _ _ _ ?_ ?_ ?_
               · rw [q (srcB ms f) (fun w => w)] at c3; exact c3
               · rw [q (frsB ms f t w) (fun w => by unfold frsB at w; rw [decide_eq_true_eq] at w; simp [srcB, w.1])] at c4; exact c4
               · rw [q (lftB rp ms f t w) (fun w => by unfold lftB at w; rw [decide_eq_true_eq] at w; simp [srcB, w.1])] at c5; exact c5)
          · refine g_bipush hC dX10_copy_50 (by decide +kernel) ?_
            refine g_iret hC hI rfl dX10_copy_52 (Nat.le_of_ble_eq_true rfl) (Nat.le_of_ble_eq_true rfl) ⟨rfl, rfl, _, rfl, ?_⟩
            have e8 : cpC rp ms f t n w = -4 := by rw [cpC, if_neg (by omega), if_pos (by omega)]
            have e9 : cpyS rp ms f t n w y = ms := by rw [cpyS, if_neg]; rw [e8]; omega
            rw [e9, e8, show stG g (-4) = g from rfl, show stZ y z (-4) = z from if_neg (by omega)]
            exact ⟨rfl, ⟨hV9, hc0.2⟩⟩
      · refine g_iload_n hC dX10_copy_29 rfl ?_
        refine g_SP hC (kX10_isName (gl X) (gD X) (gac X) n i_n) csX10_isName lkX10_100 rfl rfl (Nat.le_of_ble_eq_true rfl) (hI.fit (Nat.le_of_ble_eq_true rfl) (Nat.le_of_ble_eq_true rfl) (Nat.le_of_ble_eq_true rfl)) dX10_copy_30 (fun x30 hx30 => ?_)
        refine g_if_eq (tgt := 50) hC dX10_copy_33 (by decide) ⟨by omega, by omega⟩ (fun h33 => ?_) (fun h33 => ?_)
        · refine g_bipush hC dX10_copy_50 (by decide +kernel) ?_
          refine g_iret hC hI rfl dX10_copy_52 (Nat.le_of_ble_eq_true rfl) (Nat.le_of_ble_eq_true rfl) ⟨rfl, rfl, _, rfl, ?_⟩
          have e8 : cpC rp ms f t n w = -4 := by rw [cpC, if_neg (by omega), if_pos (by omega)]
          have e9 : cpyS rp ms f t n w y = ms := by rw [cpyS, if_neg]; rw [e8]; omega
          rw [e9, e8, show stG g (-4) = g from rfl, show stZ y z (-4) = z from if_neg (by omega)]
          exact ⟨rfl, ⟨hV9, hc0.2⟩⟩
        · refine g_iload hC dX10_copy_36 rfl ?_
          refine g_iconst hC dX10_copy_38 ?_
          refine g_icmp_eq (tgt := 53) hC dX10_copy_39 (by decide) ⟨by omega, by omega⟩ ⟨by omega, by omega⟩ (fun h39 => ?_) (fun h39 => ?_)
          · have hlf : (1 ≤ f ∧ f ≤ rp.length) ∧ 1 ≤ t ∧ t ≤ rp.length := by omega
            have hnw : (n = -1 ∨ (0 ≤ n ∧ n < 100)) ∧ (w = -1 ∨ (0 ≤ w ∧ w < 100)) := by omega
            refine g_iconst hC dX10_copy_53 ?_
            refine g_istore hC dX10_copy_54 (Nat.le_of_ble_eq_true rfl) ?_
            dsimp only [List.set]
            refine g_iconst hC dX10_copy_56 ?_
            refine g_istore hC dX10_copy_57 (Nat.le_of_ble_eq_true rfl) ?_
            dsimp only [List.set]
            refine g_iconst hC dX10_copy_59 ?_
            refine g_istore hC dX10_copy_60 (Nat.le_of_ble_eq_true rfl) ?_
            dsimp only [List.set]
            refine g_iconst hC dX10_copy_62 ?_
            refine g_istore hC dX10_copy_63 (Nat.le_of_ble_eq_true rfl) ?_
            dsimp only [List.set]
            first
            | exact J65 hlf hnw 100 0 0 0 0 none none none (by omega) (by omega) (by rw [hN1]; exact Nat.zero_add _) (by rw [hN2]; exact Nat.zero_add _) (by rw [hN3]; exact Nat.zero_add _)
            | exact ih (s + 1) d2 l2' _ _ _ (by omega) hd2 hl2
            | (have q : ∀ p : Int → Bool, (p i = true → srcB ms f i = true) → cnt (fun j => flt n j && p j) (k + 1) i = cnt (fun j => flt n j && p j) k (i + 1) := by
                 intro p hp
                 refine cnt_f ?_
                 by_cases fl : flt n i = true
                 · rw [if_pos fl] at hv0
                   cases e : p i with
                   | false => rw [Bool.and_false]
                   | true =>
                     have := hp e
                     simp [srcB] at this
                     omega
                 · rw [Bool.not_eq_true] at fl
                   rw [fl]; rfl
               refine ih s d l _ _ _ ?_ ?_ ?_
               · rw [q (srcB ms f) (fun w => w)] at c3; exact c3
               · rw [q (frsB ms f t w) (fun w => by unfold frsB at w; rw [decide_eq_true_eq] at w; simp [srcB, w.1])] at c4; exact c4
               · rw [q (lftB rp ms f t w) (fun w => by unfold lftB at w; rw [decide_eq_true_eq] at w; simp [srcB, w.1])] at c5; exact c5)
          · refine g_iload hC dX10_copy_42 rfl ?_
            refine g_SP hC (kX10_isName (gl X) (gD X) (gac X) w i_w) csX10_isName lkX10_100 rfl rfl (Nat.le_of_ble_eq_true rfl) (hI.fit (Nat.le_of_ble_eq_true rfl) (Nat.le_of_ble_eq_true rfl) (Nat.le_of_ble_eq_true rfl)) dX10_copy_44 (fun x44 hx44 => ?_)
            refine g_if_ne (tgt := 53) hC dX10_copy_47 (by decide) ⟨by omega, by omega⟩ (fun h47 => ?_) (fun h47 => ?_)
            · have hlf : (1 ≤ f ∧ f ≤ rp.length) ∧ 1 ≤ t ∧ t ≤ rp.length := by omega
              have hnw : (n = -1 ∨ (0 ≤ n ∧ n < 100)) ∧ (w = -1 ∨ (0 ≤ w ∧ w < 100)) := by omega
              refine g_iconst hC dX10_copy_53 ?_
              refine g_istore hC dX10_copy_54 (Nat.le_of_ble_eq_true rfl) ?_
              dsimp only [List.set]
              refine g_iconst hC dX10_copy_56 ?_
              refine g_istore hC dX10_copy_57 (Nat.le_of_ble_eq_true rfl) ?_
              dsimp only [List.set]
              refine g_iconst hC dX10_copy_59 ?_
              refine g_istore hC dX10_copy_60 (Nat.le_of_ble_eq_true rfl) ?_
              dsimp only [List.set]
              refine g_iconst hC dX10_copy_62 ?_
              refine g_istore hC dX10_copy_63 (Nat.le_of_ble_eq_true rfl) ?_
              dsimp only [List.set]
              first
              | exact J65 hlf hnw 100 0 0 0 0 none none none (by omega) (by omega) (by rw [hN1]; exact Nat.zero_add _) (by rw [hN2]; exact Nat.zero_add _) (by rw [hN3]; exact Nat.zero_add _)
              | exact ih (s + 1) d2 l2' _ _ _ (by omega) hd2 hl2
              | (have q : ∀ p : Int → Bool, (p i = true → srcB ms f i = true) → cnt (fun j => flt n j && p j) (k + 1) i = cnt (fun j => flt n j && p j) k (i + 1) := by
                   intro p hp
                   refine cnt_f ?_
                   by_cases fl : flt n i = true
                   · rw [if_pos fl] at hv0
                     cases e : p i with
                     | false => rw [Bool.and_false]
                     | true =>
                       have := hp e
                       simp [srcB] at this
                       omega
                   · rw [Bool.not_eq_true] at fl
                     rw [fl]; rfl
                 refine ih s d l _ _ _ ?_ ?_ ?_
                 · rw [q (srcB ms f) (fun w => w)] at c3; exact c3
                 · rw [q (frsB ms f t w) (fun w => by unfold frsB at w; rw [decide_eq_true_eq] at w; simp [srcB, w.1])] at c4; exact c4
                 · rw [q (lftB rp ms f t w) (fun w => by unfold lftB at w; rw [decide_eq_true_eq] at w; simp [srcB, w.1])] at c5; exact c5)
            · refine g_bipush hC dX10_copy_50 (by decide +kernel) ?_
              refine g_iret hC hI rfl dX10_copy_52 (Nat.le_of_ble_eq_true rfl) (Nat.le_of_ble_eq_true rfl) ⟨rfl, rfl, _, rfl, ?_⟩
              have e8 : cpC rp ms f t n w = -4 := by rw [cpC, if_neg (by omega), if_pos (by omega)]
              have e9 : cpyS rp ms f t n w y = ms := by rw [cpyS, if_neg]; rw [e8]; omega
              rw [e9, e8, show stG g (-4) = g from rfl, show stZ y z (-4) = z from if_neg (by omega)]
              exact ⟨rfl, ⟨hV9, hc0.2⟩⟩
    · refine g_bipush hC dX10_copy_21 (by decide +kernel) ?_
      refine g_iret hC hI rfl dX10_copy_23 (Nat.le_of_ble_eq_true rfl) (Nat.le_of_ble_eq_true rfl) ⟨rfl, rfl, _, rfl, ?_⟩
      have e8 : cpC rp ms f t n w = -2 := if_pos (by omega)
      have e9 : cpyS rp ms f t n w y = ms := by rw [cpyS, if_neg]; rw [e8]; omega
      rw [e9, e8, show stG g (-2) = g from rfl, show stZ y z (-2) = z from if_neg (by omega)]
      exact ⟨rfl, ⟨hV9, hc0.2⟩⟩
