set_option maxHeartbeats 4000000 in
set_option maxRecDepth 100000 in
theorem kX10_import0 (lc : Launch) (D : va_G) (ac : Nat → ClassId) {sh : Nat → Nat × Nat} {rf : Nat → Nat → Option Nat} {mem : Nat → Nat → Int} (m : Nat) (B : Nat → Nat) (rp ex ar : List Int) (ms : List (Option MemT)) (ss : List (Option SetT)) (ch : Lns) (ds : Dfs) (lk : Nat) (g y z : Int) (b : Int) (hM : MO sh rf m B) (hV : MV m B mem rp ms ss ch ds lk ex ar g y z) (kS : okS ss) (kA : arI ar ∧ ∀ j, 0 ≤ ar.getD j 0 ∧ ar.getD j 0 < 256) : gMet lc D ac mX10_import0 3 [.ref m, .int (iI b)] 0 0 sh rf mem (pM sh rf (fun r mem1 => (¬ fitP ss ar (b % 256) ∧ r = -1 ∧ MV m B mem1 rp ms ss ch ds lk ex [] g y z ∧ chA m B mem mem1) ∨ (fitP ss ar (b % 256) ∧ ¬ whP (ar ++ [b % 256]) ∧ r = 0 ∧ MV m B mem1 rp ms ss ch ds lk ex (ar ++ [b % 256]) g y z ∧ chA m B mem mem1) ∨ (fitP ss ar (b % 256) ∧ whP (ar ++ [b % 256]) ∧ ¬ canT ss ((ar ++ [b % 256]).getD 1 0) ∧ r = -1 ∧ MV m B mem1 rp ms ss ch ds lk ex [] g y z ∧ chA m B mem mem1) ∨ (fitP ss ar (b % 256) ∧ whP (ar ++ [b % 256]) ∧ canT ss ((ar ++ [b % 256]).getD 1 0) ∧ r = toN ss (ar ++ [b % 256]) ∧ MV m B mem1 rp ms (toS ss (ar ++ [b % 256])) ch ds lk ex [] g y z ∧ chA m B mem mem1))) := by
  refine gMet.mk (by decide) (by intro v hv; simp at hv; (try rcases hv with rfl | rfl) <;> rfl) (Nat.le_of_ble_eq_true rfl) (fun X hC hI => ?_)
  show gG X sh rf mem 0 0 0 [some (.ref m), some (.int (iI b)), none, none, none, none] []
  have hM9 := hM
  obtain ⟨mo, R4, S4, R5, S5, R6, S6, R7, S7, R8, S8, R9, S9, R10, S10, R11, S11, R12, S12, R13, S13, R14, S14, R15, S15, R16, S16, R17, S17, R19, S19, R20, S20, R21, S21, R22, S22, R25, S25, R26, S26, R27, S27, R30, S30, R31, S31, hBe, hBm, hmB⟩ := hM
  obtain ⟨mem0, e0⟩ : ∃ q, q = gup mem m 0 0 := ⟨_, rfl⟩
  obtain ⟨hV0, hc0⟩ := MV.code (v := 0) hmB hV
  rw [← e0] at hV0 hc0
  have hV9 := hV0
  obtain ⟨hvL, hvM, hvS, hvC, hvD, hvO, hvI, hvT⟩ := hV0
  obtain ⟨h_a, ab⟩ := kA
  have al := arI_lt h_a
  have l29 : mem0 m 29 = ar.length := hvI.1
  obtain ⟨c, hc⟩ : ∃ c : Int, (c = 1 ∧ ¬ canT ss (b % 256)) ∨ (c = 0 ∧ canT ss (b % 256)) := by
    by_cases w : canT ss (b % 256)
    · exact ⟨0, Or.inr ⟨rfl, w⟩⟩
    · exact ⟨1, Or.inl ⟨rfl, w⟩⟩
  have fq : fitP ss ar (b % 256) ↔ (ar.length = 0 → b % 256 = 69) ∧ (ar.length = 1 → (0 ≤ b % 256 ∧ b % 256 < 100) ∧ c = 0) ∧ (ar.length = 2 → b % 256 ≤ 1) ∧ (ar.length = 3 → b % 256 ≤ 60) := by
    unfold fitP
    rcases hc with ⟨c1, c2⟩ | ⟨c1, c2⟩
    · exact ⟨fun w => ⟨w.1, fun q => absurd (w.2.1 q).2 c2, w.2.2⟩, fun w => ⟨w.1, fun q => absurd (w.2.1 q).2 (by omega), w.2.2⟩⟩
    · exact ⟨fun w => ⟨w.1, fun q => ⟨(w.2.1 q).1, c1⟩, w.2.2⟩, fun w => ⟨w.1, fun q => ⟨(w.2.1 q).1, c2⟩, w.2.2⟩⟩
  have cb : 0 ≤ c ∧ c ≤ 1 := by omega
  have J228 : ∀ (q : Int) (ob : List Int) (K : Nat) (x : SetT) (s5 : List (Option SetT)) (m0 : Nat → Nat → Int) (gd : Int), gd = (if ob.getD 2 0 = 1 then 1 else 0) → whP ob → (0 ≤ ob.getD 1 0 ∧ ob.getD 1 0 < 100) → (0 ≤ ob.getD 3 0 ∧ ob.getD 3 0 ≤ 60) → (∀ j, 0 ≤ ob.getD j 0 ∧ ob.getD j 0 < 256) → (∀ j, j < ob.length → m0 (B 31) j = ob.getD j 0) → fitP ss ar (b % 256) → canT ss (ob.getD 1 0) → ob = ar ++ [b % 256] → chF m B mem0 m0 [29, 31, 3, 12, 13, 14, 16] → m0 m 29 = 0 → 1 ≤ K ∧ K ≤ 20 → s5.getD (K - 1) none = some x → vS m B m0 s5 → okS s5 → toS ss ob = s5.set (K - 1) (some (ob.getD 1 0, (if ob.getD 2 0 = 1 then 1 else 0), wds ob (ob.getD 3 0).toNat, (ob.getD 3 0).toNat)) → toN ss ob = K → ∀ (t k : Nat) (m1 : Nat → Nat → Int), k ≤ (ob.getD 3 0).toNat → (ob.getD 3 0).toNat < k + t → chF m B m0 m1 [13, 14, 15, 16] → frS B m0 m1 K → sB1 B m1 K (ob.getD 1 0, gd, wds ob k, k) → gG X sh rf m1 0 0 228 [some (.ref m), some (.int (iI b)), some (.int (iI (b % 256))), some (.int (iI q)), some (.int (iI K)), some (.int (iI k))] [] := by
    intro q ob K x s5 m0 gd egd wh f1 f3 fb fO fp cn eo a5 a29 hK hx hv5 ok5 ts tn t
    induction t with
    | zero => intro k m1 c1 c2; omega
    | succ t ih =>
      intro k m1 c1 c2 c3 c4 c5
      have h31 : m1 (B 31) = m0 (B 31) := (c3.1 31 (by decide)).2
      have w3 : m1 (B 31) (3 : Int).toNat = ob.getD 3 0 := by rw [h31]; exact fO 3 (by have := wh.1; omega)
      refine g_iload hC dX10_import0_228 rfl ?_
      refine g_aload_n hC dX10_import0_230 rfl ?_
      refine g_getR hC fdX10_81 (by assumption) (by assumption) dX10_import0_231 ?_
      refine g_iconst hC dX10_import0_234 ?_
      refine g_iald hC (by assumption) (by omega) (by omega) (by decide) dX10_import0_235 ?_
      refine g_icmp_ge (tgt := 309) hC dX10_import0_236 (by decide) ⟨by omega, by omega⟩ ⟨by omega, by omega⟩ (fun h236 => ?_) (fun h236 => ?_)
      · refine g_iload hC dX10_import0_309 rfl ?_
        refine g_iret hC hI rfl dX10_import0_311 (Nat.le_of_ble_eq_true rfl) (Nat.le_of_ble_eq_true rfl) ⟨rfl, rfl, _, rfl, ?_⟩
        right; right; right
        obtain rfl : k = (ob.getD 3 0).toNat := by omega
        have a6 := a5.trans c3
        rw [← eo]
        have K9 : K - 1 + 1 = K := by omega
        rw [egd] at c5
        have key := vS_set (k := K - 1) hv5 ok5 hx (by rw [K9]; exact c5) (by rw [K9]; exact c4) (c3.1 3 (by decide)).1
        rw [← ts] at key
        exact ⟨fp, wh, cn, tn.symm, ⟨hvL.st a6 (by decide), hvM.st a6 (by decide), key, hvC.st a6 (by decide), hvD.st a6 (by decide), hvO.st a6 (by decide), ⟨by rw [(c3.1 29 (by decide)).1]; exact a29, fun j hj => absurd hj (Nat.not_lt_zero j)⟩, hvT.st a6 (by decide)⟩, chA.trans hc0.2 a6.2⟩
      · have kq : k < (ob.getD 3 0).toNat := by omega
        have wl := wh.2
        have lw := wds_len ob k
        obtain ⟨y0, ey0⟩ : ∃ y, y = ob.getD (4 + 4 * k) 0 := ⟨_, rfl⟩
        obtain ⟨y1, ey1⟩ : ∃ y, y = ob.getD (4 + 4 * k + 1) 0 := ⟨_, rfl⟩
        obtain ⟨y2, ey2⟩ : ∃ y, y = ob.getD (4 + 4 * k + 2) 0 := ⟨_, rfl⟩
        obtain ⟨y3, ey3⟩ : ∃ y, y = ob.getD (4 + 4 * k + 3) 0 := ⟨_, rfl⟩
        have p0 := fb (4 + 4 * k)
        have p1 := fb (4 + 4 * k + 1)
        have p2 := fb (4 + 4 * k + 2)
        have p3 := fb (4 + 4 * k + 3)
        rw [← ey0] at p0
        rw [← ey1] at p1
        rw [← ey2] at p2
        rw [← ey3] at p3
        have u0 : m1 (B 31) (4 + 4 * (k : Int)).toNat = y0 := by
          rw [h31, ey0, show (4 + 4 * (k : Int)).toNat = 4 + 4 * k by omega]; exact fO _ (by omega)
        have u1 : m1 (B 31) (5 + 4 * (k : Int)).toNat = y1 := by
          rw [h31, ey1, show (5 + 4 * (k : Int)).toNat = 4 + 4 * k + 1 by omega]; exact fO _ (by omega)
        have u2 : m1 (B 31) (6 + 4 * (k : Int)).toNat = y2 := by
          rw [h31, ey2, show (6 + 4 * (k : Int)).toNat = 4 + 4 * k + 2 by omega]; exact fO _ (by omega)
        have u3 : m1 (B 31) (7 + 4 * (k : Int)).toNat = y3 := by
          rw [h31, ey3, show (7 + 4 * (k : Int)).toNat = 4 + 4 * k + 3 by omega]; exact fO _ (by omega)
        refine g_aload_n hC dX10_import0_239 rfl ?_
        refine g_iload hC dX10_import0_240 rfl ?_
        refine g_aload_n hC dX10_import0_242 rfl ?_
        refine g_getR hC fdX10_81 (by assumption) (by assumption) dX10_import0_243 ?_
        refine g_iconst hC dX10_import0_246 ?_
        refine g_iconst hC dX10_import0_247 ?_
        refine g_iload hC dX10_import0_248 rfl ?_
        refine g_imul hC dX10_import0_250 ?_
        refine g_iadd hC dX10_import0_251 ?_
        refine g_iald hC (by assumption) (by omega) (by omega) (by decide) dX10_import0_252 ?_
        rw [u0]
        refine g_bipush hC dX10_import0_253 (by decide +kernel) ?_
        refine g_ishl hC dX10_import0_255 ?_
        refine g_topI (iI_sh24 (by omega) (by omega)) ?_
        refine g_aload_n hC dX10_import0_256 rfl ?_
        refine g_getR hC fdX10_81 (by assumption) (by assumption) dX10_import0_257 ?_
        refine g_iconst hC dX10_import0_260 ?_
        refine g_iconst hC dX10_import0_261 ?_
        refine g_iload hC dX10_import0_262 rfl ?_
        refine g_imul hC dX10_import0_264 ?_
        refine g_iadd hC dX10_import0_265 ?_
        refine g_iald hC (by assumption) (by omega) (by omega) (by decide) dX10_import0_266 ?_
        rw [u1]
        refine g_bipush hC dX10_import0_267 (by decide +kernel) ?_
        refine g_ishl hC dX10_import0_269 ?_
        refine g_topI (iI_sh16 (by omega) (by omega)) ?_
        refine g_ior hC dX10_import0_270 ?_
        refine g_topI (iI_or (a := y0) 24 (by omega) (by omega) (by omega) (by omega)) ?_
        refine g_aload_n hC dX10_import0_271 rfl ?_
        refine g_getR hC fdX10_81 (by assumption) (by assumption) dX10_import0_272 ?_
        refine g_bipush hC dX10_import0_275 (by decide +kernel) ?_
        refine g_iconst hC dX10_import0_277 ?_
        refine g_iload hC dX10_import0_278 rfl ?_
        refine g_imul hC dX10_import0_280 ?_
        refine g_iadd hC dX10_import0_281 ?_
        refine g_iald hC (by assumption) (by omega) (by omega) (by decide) dX10_import0_282 ?_
        rw [u2]
        refine g_bipush hC dX10_import0_283 (by decide +kernel) ?_
        refine g_ishl hC dX10_import0_285 ?_
        refine g_topI (iI_sh8 (by omega) (by omega)) ?_
        refine g_ior hC dX10_import0_286 ?_
        refine g_topI (iI_or (a := y0 * 256 + y1) 16 (by omega) (by omega) (by omega) (by omega)) ?_
        refine g_aload_n hC dX10_import0_287 rfl ?_
        refine g_getR hC fdX10_81 (by assumption) (by assumption) dX10_import0_288 ?_
        refine g_bipush hC dX10_import0_291 (by decide +kernel) ?_
        refine g_iconst hC dX10_import0_293 ?_
        refine g_iload hC dX10_import0_294 rfl ?_
        refine g_imul hC dX10_import0_296 ?_
        refine g_iadd hC dX10_import0_297 ?_
        refine g_iald hC (by assumption) (by omega) (by omega) (by decide) dX10_import0_298 ?_
        rw [u3]
        refine g_ior hC dX10_import0_299 ?_
        refine g_topI (iI_or (a := y0 * 65536 + y1 * 256 + y2) 8 (by omega) (by omega) (by omega) (by omega)) ?_
        refine g_VV hC (kX10_append (gl X) (gD X) (gac X) m B K (ob.getD 1 0, gd, wds ob k, k) _ hM9 c5 hK (show k < 60 by omega) (show k ≤ (wds ob k).length by omega)) cvX10_append lkX10_161 (by assumption) rfl rfl (Nat.le_of_ble_eq_true rfl) (hI.fit (Nat.le_of_ble_eq_true rfl) (Nat.le_of_ble_eq_true rfl) (Nat.le_of_ble_eq_true rfl)) dX10_import0_300 (fun mem300 hx300 => ?_)
        obtain ⟨b1, b2, b3⟩ := hx300
        refine g_iinc hC dX10_import0_303 rfl ?_
        dsimp only [List.set]
        refine g_goto (tgt := 228) hC dX10_import0_306 (by decide) ?_
        first
        | (refine J228 q ob K x s5 m0 gd egd wh f1 f3 fb fO fp cn eo a5 a29 hK hx hv5 ok5 ts tn ((ob.getD 3 0).toNat + 1) 0 mem8 (Nat.zero_le _) (by omega) ?_ ?_ ?_
           · rw [e8, e7, e6]; exact (((chF.row hBe hmB).trans (chF.row hBe hmB)).trans (chF.row hBe hmB)).mono (by decide)
           · rw [e8, e7, e6]
             refine ⟨fun j hj => ?_, fun j hj => ?_⟩
             · simp [gup, hBe, hj]
             · simp [gup, hBe]
           · rw [e8, e7, e6]
             obtain ⟨h1, h2, -⟩ := (hv5.2.1 (K - 1) (getD_lt (by rw [hx]; simp))).2 x hx
             rw [show K - 1 + 1 = K by omega] at h1 h2
             refine ⟨?_, ?_, ?_, ?_, ?_, fun j hj => absurd hj (Nat.not_lt_zero j)⟩
             · simp [gup, hBe]; exact h1
             · simp [gup, hBe]; exact h2.trans x1
             · simp [gup, hBe]
             · simp [gup, hBe, wds]
             · simp [gup, hBe])
        | (refine ih (k + 1) mem300 (by omega) (by omega) ((c3.trans b3).mono (by decide)) (c4.trans b2) ?_
           have e9 : (wds ob k).take k ++ [y0 * 16777216 + y1 * 65536 + y2 * 256 + y3] = wds ob (k + 1) := by
             rw [take_all lw, wds, wd, ey0, ey1, ey2, ey3]
           rw [← e9]
           exact b1)
  have J187 : ∀ (q : Int) (ob : List Int) (K : Nat) (x : SetT) (s5 : List (Option SetT)) (m0 : Nat → Nat → Int), whP ob → (0 ≤ ob.getD 1 0 ∧ ob.getD 1 0 < 100) → (0 ≤ ob.getD 3 0 ∧ ob.getD 3 0 ≤ 60) → (∀ j, 0 ≤ ob.getD j 0 ∧ ob.getD j 0 < 256) → (∀ j, j < ob.length → m0 (B 31) j = ob.getD j 0) → fitP ss ar (b % 256) → canT ss (ob.getD 1 0) → ob = ar ++ [b % 256] → chF m B mem0 m0 [29, 31, 3, 12, 13, 14, 16] → m0 m 29 = 0 → 1 ≤ K ∧ K ≤ 20 → s5.getD (K - 1) none = some x → vS m B m0 s5 → okS s5 → x.1 = ob.getD 1 0 → toS ss ob = s5.set (K - 1) (some (ob.getD 1 0, (if ob.getD 2 0 = 1 then 1 else 0), wds ob (ob.getD 3 0).toNat, (ob.getD 3 0).toNat)) → toN ss ob = K → gG X sh rf m0 0 0 187 [some (.ref m), some (.int (iI b)), some (.int (iI (b % 256))), some (.int (iI q)), some (.int (iI K)), none] [] := by
    intro q ob K x s5 m0 wh f1 f3 fb fO fp cn eo a5 a29 hK hx hv5 ok5 x1 ts tn
    obtain ⟨gd, egd⟩ : ∃ gd : Int, gd = if ob.getD 2 0 = 1 then 1 else 0 := ⟨_, rfl⟩
    have gd1 : gd = 0 ∨ gd = 1 := by rw [egd]; split <;> omega
    refine g_aload_n hC dX10_import0_187 rfl ?_
    refine g_getR hC fdX10_47 (by assumption) (by assumption) dX10_import0_188 ?_
    refine g_iload hC dX10_import0_191 rfl ?_
    refine g_aload_n hC dX10_import0_193 rfl ?_
    refine g_getR hC fdX10_81 (by assumption) (by assumption) dX10_import0_194 ?_
    refine g_iconst hC dX10_import0_197 ?_
    refine g_iald hC (by assumption) (by omega) (by omega) (by decide) dX10_import0_198 ?_
    have w2 : m0 (B 31) (2 : Int).toNat = ob.getD 2 0 := fO 2 (by have := wh.1; omega)
    obtain ⟨fb1, fb2⟩ := fb 2
    rw [w2]
    refine g_iconst hC dX10_import0_199 ?_
    refine g_icmp_ne (tgt := 207) hC dX10_import0_200 (by decide) ⟨by omega, by omega⟩ ⟨by omega, by omega⟩ (fun h200 => ?_) (fun h200 => ?_)
    · refine g_iconst hC dX10_import0_207 ?_
      refine g_topI (a := gd) (by first | (rw [egd, if_pos (by omega)]; done) | (rw [egd, if_neg (by omega)]; done)) ?_
      refine g_zast hC (by assumption) (by omega) (by omega) (by decide) (by omega) dX10_import0_208 ?_
      obtain ⟨mem6, e6⟩ : ∃ q, q = gup m0 (B 16) (K : Int).toNat gd := ⟨_, rfl⟩
      rw [← e6]
      refine g_aload_n hC dX10_import0_209 rfl ?_
      refine g_getR hC fdX10_38 (by assumption) (by assumption) dX10_import0_210 ?_
      refine g_iload hC dX10_import0_213 rfl ?_
      refine g_iconst hC dX10_import0_215 ?_
      refine g_iast hC (by assumption) (by omega) (by omega) (by decide) dX10_import0_216 ?_
      obtain ⟨mem7, e7⟩ : ∃ q, q = gup mem6 (B 13) (K : Int).toNat 0 := ⟨_, rfl⟩
      rw [← e7]
      refine g_aload_n hC dX10_import0_217 rfl ?_
      refine g_getR hC fdX10_41 (by assumption) (by assumption) dX10_import0_218 ?_
      refine g_iload hC dX10_import0_221 rfl ?_
      refine g_iconst hC dX10_import0_223 ?_
      refine g_iast hC (by assumption) (by omega) (by omega) (by decide) dX10_import0_224 ?_
      obtain ⟨mem8, e8⟩ : ∃ q, q = gup mem7 (B 14) (K : Int).toNat 0 := ⟨_, rfl⟩
      rw [← e8]
      refine g_iconst hC dX10_import0_225 ?_
      refine g_istore hC dX10_import0_226 (Nat.le_of_ble_eq_true rfl) ?_
      dsimp only [List.set]
      first
      | (refine J228 q ob K x s5 m0 gd egd wh f1 f3 fb fO fp cn eo a5 a29 hK hx hv5 ok5 ts tn ((ob.getD 3 0).toNat + 1) 0 mem8 (Nat.zero_le _) (by omega) ?_ ?_ ?_
         · rw [e8, e7, e6]; exact (((chF.row hBe hmB).trans (chF.row hBe hmB)).trans (chF.row hBe hmB)).mono (by decide)
         · rw [e8, e7, e6]
           refine ⟨fun j hj => ?_, fun j hj => ?_⟩
           · simp [gup, hBe, hj]
           · simp [gup, hBe]
         · rw [e8, e7, e6]
           obtain ⟨h1, h2, -⟩ := (hv5.2.1 (K - 1) (getD_lt (by rw [hx]; simp))).2 x hx
           rw [show K - 1 + 1 = K by omega] at h1 h2
           refine ⟨?_, ?_, ?_, ?_, ?_, fun j hj => absurd hj (Nat.not_lt_zero j)⟩
           · simp [gup, hBe]; exact h1
           · simp [gup, hBe]; exact h2.trans x1
           · simp [gup, hBe]
           · simp [gup, hBe, wds]
           · simp [gup, hBe])
      | (refine ih (k + 1) mem300 (by omega) (by omega) ((c3.trans b3).mono (by decide)) (c4.trans b2) ?_
         have e9 : (wds ob k).take k ++ [y0 * 16777216 + y1 * 65536 + y2 * 256 + y3] = wds ob (k + 1) := by
           rw [take_all lw, wds, wd, ey0, ey1, ey2, ey3]
         rw [← e9]
         exact b1)
    · refine g_iconst hC dX10_import0_203 ?_
      refine g_goto (tgt := 208) hC dX10_import0_204 (by decide) ?_
      refine g_topI (a := gd) (by first | (rw [egd, if_pos (by omega)]; done) | (rw [egd, if_neg (by omega)]; done)) ?_
      refine g_zast hC (by assumption) (by omega) (by omega) (by decide) (by omega) dX10_import0_208 ?_
      obtain ⟨mem6, e6⟩ : ∃ q, q = gup m0 (B 16) (K : Int).toNat gd := ⟨_, rfl⟩
      rw [← e6]
      refine g_aload_n hC dX10_import0_209 rfl ?_
      refine g_getR hC fdX10_38 (by assumption) (by assumption) dX10_import0_210 ?_
      refine g_iload hC dX10_import0_213 rfl ?_
      refine g_iconst hC dX10_import0_215 ?_
      refine g_iast hC (by assumption) (by omega) (by omega) (by decide) dX10_import0_216 ?_
      obtain ⟨mem7, e7⟩ : ∃ q, q = gup mem6 (B 13) (K : Int).toNat 0 := ⟨_, rfl⟩
      rw [← e7]
      refine g_aload_n hC dX10_import0_217 rfl ?_
      refine g_getR hC fdX10_41 (by assumption) (by assumption) dX10_import0_218 ?_
      refine g_iload hC dX10_import0_221 rfl ?_
      refine g_iconst hC dX10_import0_223 ?_
      refine g_iast hC (by assumption) (by omega) (by omega) (by decide) dX10_import0_224 ?_
      obtain ⟨mem8, e8⟩ : ∃ q, q = gup mem7 (B 14) (K : Int).toNat 0 := ⟨_, rfl⟩
      rw [← e8]
      refine g_iconst hC dX10_import0_225 ?_
      refine g_istore hC dX10_import0_226 (Nat.le_of_ble_eq_true rfl) ?_
      dsimp only [List.set]
      first
      | (refine J228 q ob K x s5 m0 gd egd wh f1 f3 fb fO fp cn eo a5 a29 hK hx hv5 ok5 ts tn ((ob.getD 3 0).toNat + 1) 0 mem8 (Nat.zero_le _) (by omega) ?_ ?_ ?_
         · rw [e8, e7, e6]; exact (((chF.row hBe hmB).trans (chF.row hBe hmB)).trans (chF.row hBe hmB)).mono (by decide)
         · rw [e8, e7, e6]
           refine ⟨fun j hj => ?_, fun j hj => ?_⟩
           · simp [gup, hBe, hj]
           · simp [gup, hBe]
         · rw [e8, e7, e6]
           obtain ⟨h1, h2, -⟩ := (hv5.2.1 (K - 1) (getD_lt (by rw [hx]; simp))).2 x hx
           rw [show K - 1 + 1 = K by omega] at h1 h2
           refine ⟨?_, ?_, ?_, ?_, ?_, fun j hj => absurd hj (Nat.not_lt_zero j)⟩
           · simp [gup, hBe]; exact h1
           · simp [gup, hBe]; exact h2.trans x1
           · simp [gup, hBe]
           · simp [gup, hBe, wds]
           · simp [gup, hBe])
      | (refine ih (k + 1) mem300 (by omega) (by omega) ((c3.trans b3).mono (by decide)) (c4.trans b2) ?_
         have e9 : (wds ob k).take k ++ [y0 * 16777216 + y1 * 65536 + y2 * 256 + y3] = wds ob (k + 1) := by
           rw [take_all lw, wds, wd, ey0, ey1, ey2, ey3]
         rw [← e9]
         exact b1)
  have J78 : ∀ bb : Int, ((bb = 1 ∧ ¬ fitP ss ar (b % 256)) ∨ (bb = 0 ∧ fitP ss ar (b % 256))) → gG X sh rf mem0 0 0 78 [some (.ref m), some (.int (iI b)), some (.int (iI (b % 256))), none, none, none] [.int (iI bb)] := by
    intro bb hb
    have hb2 : 0 ≤ bb ∧ bb ≤ 1 := by omega
    refine g_istore_n hC 3 rfl dX10_import0_78 (Nat.le_of_ble_eq_true rfl) ?_
    dsimp only [List.set]
    refine g_iload_n hC dX10_import0_79 rfl ?_
    refine g_if_eq (tgt := 90) hC dX10_import0_80 (by decide) ⟨by omega, by omega⟩ (fun h80 => ?_) (fun h80 => ?_)
    · have fp : fitP ss ar (b % 256) := by
        rcases hb with ⟨w, -⟩ | ⟨-, w⟩
        · omega
        · exact w
      obtain ⟨ob, eo⟩ : ∃ ob, ob = ar ++ [b % 256] := ⟨_, rfl⟩
      obtain ⟨g1, g3⟩ := arI_app h_a fp (by omega)
      rw [← eo] at g1 g3
      have ol : ob.length = ar.length + 1 := by rw [eo]; simp
      have fb : ∀ j, 0 ≤ ob.getD j 0 ∧ ob.getD j 0 < 256 := fun j => by
        rw [eo, getD_snd]
        split
        · omega
        · exact ab j
      refine g_aload_n hC dX10_import0_90 rfl ?_
      refine g_getR hC fdX10_81 (by assumption) (by assumption) dX10_import0_91 ?_
      refine g_aload_n hC dX10_import0_94 rfl ?_
      refine g_getI hC fdX10_194 (by assumption) dX10_import0_95 ?_
      refine g_iload_n hC dX10_import0_98 rfl ?_
      refine g_iast hC (by assumption) (by omega) (by omega) (by decide) dX10_import0_99 ?_
      obtain ⟨mem3, e3⟩ : ∃ q, q = gup mem0 (B 31) (mem0 m 29).toNat (b % 256) := ⟨_, rfl⟩
      rw [← e3]
      have c3 : chF m B mem0 mem3 [31] := by rw [e3]; exact chF.row hBe hmB
      have t3 : mem3 m 29 = ar.length := by rw [(c3.1 29 (by decide)).1]; exact l29
      refine g_aload_n hC dX10_import0_100 rfl ?_
      refine g_dup hC dX10_import0_101 rfl ?_
      refine g_getI hC fdX10_194 (by assumption) dX10_import0_102 ?_
      refine g_iconst hC dX10_import0_105 ?_
      refine g_iadd hC dX10_import0_106 ?_
      refine g_putI hC fdX10_194 (by assumption) rfl rfl dX10_import0_107 ?_
      obtain ⟨mem4, e4⟩ : ∃ q, q = gup mem3 m 29 (mem3 m 29 + 1) := ⟨_, rfl⟩
      rw [← e4]
      have c4 : chF m B mem3 mem4 [29] := by rw [e4]; exact chF.fld hmB
      have t4 : mem4 m 29 = ar.length + 1 := by rw [e4, gup_s, t3]
      have d4 : chF m B mem0 mem4 [29, 31] := (c3.trans c4).mono (by decide)
      have fO : ∀ j, j < ob.length → mem4 (B 31) j = ob.getD j 0 := fun j hj => by
        rw [(c4.1 31 (by decide)).2, e3, eo, getD_snd, show (mem0 m 29).toNat = ar.length by omega]
        by_cases e : j = ar.length
        · rw [if_pos e, e, gup_s]
        · rw [if_neg e, gup_k _ _ _ _ e]
          exact hvI.2 j (by omega)
      refine g_aload_n hC dX10_import0_110 rfl ?_
      refine g_getI hC fdX10_194 (by assumption) dX10_import0_111 ?_
      refine g_iconst hC dX10_import0_114 ?_
      refine g_icmp_lt (tgt := 135) hC dX10_import0_115 (by decide) ⟨by omega, by omega⟩ ⟨by omega, by omega⟩ (fun h115 => ?_) (fun h115 => ?_)
      · refine g_iconst hC dX10_import0_135 ?_
        refine g_iret hC hI rfl dX10_import0_136 (Nat.le_of_ble_eq_true rfl) (Nat.le_of_ble_eq_true rfl) ⟨rfl, rfl, _, rfl, ?_⟩
        right; left
        rw [← eo]
        refine ⟨fp, fun w => ?_, rfl, ⟨hvL.st d4 (by decide), hvM.st d4 (by decide), hvS.st d4 (by decide), hvC.st d4 (by decide), hvD.st d4 (by decide), hvO.st d4 (by decide), ⟨by omega, fO⟩, hvT.st d4 (by decide)⟩, chA.trans hc0.2 d4.2⟩
        have u1 := w.1
        have u2 := w.2
        omega
      · have w3 : mem4 (B 31) (3 : Int).toNat = ob.getD 3 0 := fO 3 (by omega)
        obtain ⟨g31, g32⟩ := g3 (by omega)
        refine g_aload_n hC dX10_import0_118 rfl ?_
        refine g_getI hC fdX10_194 (by assumption) dX10_import0_119 ?_
        refine g_iconst hC dX10_import0_122 ?_
        refine g_iconst hC dX10_import0_123 ?_
        refine g_aload_n hC dX10_import0_124 rfl ?_
        refine g_getR hC fdX10_81 (by assumption) (by assumption) dX10_import0_125 ?_
        refine g_iconst hC dX10_import0_128 ?_
        refine g_iald hC (by assumption) (by omega) (by omega) (by decide) dX10_import0_129 ?_
        refine g_imul hC dX10_import0_130 ?_
        refine g_iadd hC dX10_import0_131 ?_
        refine g_icmp_ge (tgt := 137) hC dX10_import0_132 (by decide) ⟨by omega, by omega⟩ ⟨by omega, by omega⟩ (fun h132 => ?_) (fun h132 => ?_)
        · refine g_aload_n hC dX10_import0_137 rfl ?_
          refine g_iconst hC dX10_import0_138 ?_
          refine g_putI hC fdX10_194 (by assumption) rfl rfl dX10_import0_139 ?_
          obtain ⟨mem5, e5⟩ : ∃ q, q = gup mem4 m 29 0 := ⟨_, rfl⟩
          rw [← e5]
          have c5 : chF m B mem4 mem5 [29] := by rw [e5]; exact chF.fld hmB
          have t5 : mem5 m 29 = 0 := by rw [e5, gup_s]
          have d5 : chF m B mem0 mem5 [29, 31] := (d4.trans c5).mono (by decide)
          have hvS5 := hvS.st d5 (by decide)
          have w1 : mem5 (B 31) (1 : Int).toNat = ob.getD 1 0 := by rw [(c5.1 31 (by decide)).2]; exact fO 1 (by omega)
          obtain ⟨g11, g12⟩ := g1 (by omega)
          have wh : whP ob := ⟨by omega, by omega⟩
          have le1 := numS_le (ob.getD 1 0) ss
          have kk := kS.1
          refine g_aload_n hC dX10_import0_142 rfl ?_
          refine g_aload_n hC dX10_import0_143 rfl ?_
          refine g_getR hC fdX10_81 (by assumption) (by assumption) dX10_import0_144 ?_
          refine g_iconst hC dX10_import0_147 ?_
          refine g_iald hC (by assumption) (by omega) (by omega) (by decide) dX10_import0_148 ?_
          rw [w1]
          refine g_VP hC (kX10_bars (gl X) (gD X) (gac X) m B ss _ hM9 hvS5 kS ⟨by omega, by omega⟩) cvX10_bars lkX10_197 (by assumption) rfl rfl (Nat.le_of_ble_eq_true rfl) (hI.fit (Nat.le_of_ble_eq_true rfl) (Nat.le_of_ble_eq_true rfl) (Nat.le_of_ble_eq_true rfl)) dX10_import0_149 (fun x149 hx149 => ?_)
          refine g_if_eq (tgt := 157) hC dX10_import0_152 (by decide) ⟨by omega, by omega⟩ (fun h152 => ?_) (fun h152 => ?_)
          · have cn : canT ss (ob.getD 1 0) := by
              rcases hx149 with ⟨w, -⟩ | ⟨-, w⟩
              · omega
              · exact w
            refine g_aload_n hC dX10_import0_157 rfl ?_
            refine g_aload_n hC dX10_import0_158 rfl ?_
            refine g_getR hC fdX10_81 (by assumption) (by assumption) dX10_import0_159 ?_
            refine g_iconst hC dX10_import0_162 ?_
            refine g_iald hC (by assumption) (by omega) (by omega) (by decide) dX10_import0_163 ?_
            rw [w1]
            refine g_VP hC (kX10_setOf (gl X) (gD X) (gac X) m B ss _ hM9 hvS5 kS ⟨by omega, by omega⟩) cvX10_setOf lkX10_157 (by assumption) rfl rfl (Nat.le_of_ble_eq_true rfl) (hI.fit (Nat.le_of_ble_eq_true rfl) (Nat.le_of_ble_eq_true rfl) (Nat.le_of_ble_eq_true rfl)) dX10_import0_164 (fun x164 hx164 => ?_)
            subst hx164
            refine g_istore hC dX10_import0_167 (Nat.le_of_ble_eq_true rfl) ?_
            dsimp only [List.set]
            refine g_iload hC dX10_import0_169 rfl ?_
            refine g_if_ne (tgt := 187) hC dX10_import0_171 (by decide) ⟨by omega, by omega⟩ (fun h171 => ?_) (fun h171 => ?_)
            · first
              | (have n0 : numS ss (ob.getD 1 0) ≠ 0 := by omega
                 obtain ⟨x, ex0, ex1⟩ := setAt_num n0
                 have s9 := (setAt_some ex0).2.2
                 rw [show ((numS ss (ob.getD 1 0) : Int) - 1).toNat = numS ss (ob.getD 1 0) - 1 by omega] at s9
                 exact J187 bb ob (numS ss (ob.getD 1 0)) x ss mem5 wh ⟨g11, g12⟩ ⟨g31, g32⟩ fb (fun j hj => by rw [(c5.1 31 (by decide)).2]; exact fO j hj) fp cn eo (d5.mono (by decide)) t5 ⟨by omega, by omega⟩ s9 hvS5 kS ex1 (by rw [toS, if_neg n0]) (by rw [toN, if_neg n0]))
              | (have n0 : numS ss (ob.getD 1 0) = 0 := by omega
                 obtain ⟨r1, r2⟩ := hx182
                 obtain ⟨n1, n2⟩ := vS_new (n := ob.getD 1 0) (g := 0) hBe hBm hmB hvS5
                 rw [← r2] at n1 n2
                 subst r1
                 refine J187 bb ob (ss.length + 1) (ob.getD 1 0, 0, [], 0) (ss ++ [some (ob.getD 1 0, 0, [], 0)]) mem182 wh ⟨g11, g12⟩ ⟨g31, g32⟩ fb (fun j hj => by rw [(n2.1 31 (by decide)).2, (c5.1 31 (by decide)).2]; exact fO j hj) fp cn eo ((d5.trans n2).mono (by decide)) ?_ ⟨by omega, by omega⟩ ?_ n1 (okS_app kS s20 ⟨g11, g12⟩ (Or.inl rfl)) rfl ?_ ?_
                 · rw [(n2.1 29 (by decide)).1]; exact t5
                 · rw [getD_appS, if_pos (by omega)]
                 · rw [toS, if_pos n0, show ss.length + 1 - 1 = ss.length by omega, set_last]
                 · rw [toN, if_pos n0]; rfl)
            · refine g_aload_n hC dX10_import0_174 rfl ?_
              refine g_aload_n hC dX10_import0_175 rfl ?_
              refine g_getR hC fdX10_81 (by assumption) (by assumption) dX10_import0_176 ?_
              refine g_iconst hC dX10_import0_179 ?_
              refine g_iald hC (by assumption) (by omega) (by omega) (by decide) dX10_import0_180 ?_
              rw [w1]
              refine g_iconst hC dX10_import0_181 ?_
              have s20 := (canT_none (ss := ss) (n := ob.getD 1 0) (by omega)).mp cn
              refine g_VM hC (kX10_newSet (gl X) (gD X) (gac X) m B ss (ob.getD 1 0) 0 hM9 hvS5 (by omega) (Or.inl rfl)) cvX10_newSet lkX10_187 (by assumption) rfl rfl (Nat.le_of_ble_eq_true rfl) (hI.fit (Nat.le_of_ble_eq_true rfl) (Nat.le_of_ble_eq_true rfl) (Nat.le_of_ble_eq_true rfl)) dX10_import0_182 (fun x182 mem182 hx182 => ?_)
              refine g_istore hC dX10_import0_185 (Nat.le_of_ble_eq_true rfl) ?_
              dsimp only [List.set]
              first
              | (have n0 : numS ss (ob.getD 1 0) ≠ 0 := by omega
                 obtain ⟨x, ex0, ex1⟩ := setAt_num n0
                 have s9 := (setAt_some ex0).2.2
                 rw [show ((numS ss (ob.getD 1 0) : Int) - 1).toNat = numS ss (ob.getD 1 0) - 1 by omega] at s9
                 exact J187 bb ob (numS ss (ob.getD 1 0)) x ss mem5 wh ⟨g11, g12⟩ ⟨g31, g32⟩ fb (fun j hj => by rw [(c5.1 31 (by decide)).2]; exact fO j hj) fp cn eo (d5.mono (by decide)) t5 ⟨by omega, by omega⟩ s9 hvS5 kS ex1 (by rw [toS, if_neg n0]) (by rw [toN, if_neg n0]))
              | (have n0 : numS ss (ob.getD 1 0) = 0 := by omega
                 obtain ⟨r1, r2⟩ := hx182
                 obtain ⟨n1, n2⟩ := vS_new (n := ob.getD 1 0) (g := 0) hBe hBm hmB hvS5
                 rw [← r2] at n1 n2
                 subst r1
                 refine J187 bb ob (ss.length + 1) (ob.getD 1 0, 0, [], 0) (ss ++ [some (ob.getD 1 0, 0, [], 0)]) mem182 wh ⟨g11, g12⟩ ⟨g31, g32⟩ fb (fun j hj => by rw [(n2.1 31 (by decide)).2, (c5.1 31 (by decide)).2]; exact fO j hj) fp cn eo ((d5.trans n2).mono (by decide)) ?_ ⟨by omega, by omega⟩ ?_ n1 (okS_app kS s20 ⟨g11, g12⟩ (Or.inl rfl)) rfl ?_ ?_
                 · rw [(n2.1 29 (by decide)).1]; exact t5
                 · rw [getD_appS, if_pos (by omega)]
                 · rw [toS, if_pos n0, show ss.length + 1 - 1 = ss.length by omega, set_last]
                 · rw [toN, if_pos n0]; rfl)
          · refine g_iconst hC dX10_import0_155 ?_
            refine g_iret hC hI rfl dX10_import0_156 (Nat.le_of_ble_eq_true rfl) (Nat.le_of_ble_eq_true rfl) ⟨rfl, rfl, _, rfl, ?_⟩
            right; right; left
            rw [← eo]
            refine ⟨fp, wh, ?_, rfl, ⟨hvL.st d5 (by decide), hvM.st d5 (by decide), hvS.st d5 (by decide), hvC.st d5 (by decide), hvD.st d5 (by decide), hvO.st d5 (by decide), ⟨t5, fun j hj => absurd hj (Nat.not_lt_zero j)⟩, hvT.st d5 (by decide)⟩, chA.trans hc0.2 d5.2⟩
            rcases hx149 with ⟨-, w⟩ | ⟨w, -⟩
            · exact w
            · omega
        · refine g_iconst hC dX10_import0_135 ?_
          refine g_iret hC hI rfl dX10_import0_136 (Nat.le_of_ble_eq_true rfl) (Nat.le_of_ble_eq_true rfl) ⟨rfl, rfl, _, rfl, ?_⟩
          right; left
          rw [← eo]
          refine ⟨fp, fun w => ?_, rfl, ⟨hvL.st d4 (by decide), hvM.st d4 (by decide), hvS.st d4 (by decide), hvC.st d4 (by decide), hvD.st d4 (by decide), hvO.st d4 (by decide), ⟨by omega, fO⟩, hvT.st d4 (by decide)⟩, chA.trans hc0.2 d4.2⟩
          have u1 := w.1
          have u2 := w.2
          omega
    · refine g_aload_n hC dX10_import0_83 rfl ?_
      refine g_iconst hC dX10_import0_84 ?_
      refine g_putI hC fdX10_194 (by assumption) rfl rfl dX10_import0_85 ?_
      obtain ⟨mem2, e2⟩ : ∃ q, q = gup mem0 m 29 0 := ⟨_, rfl⟩
      rw [← e2]
      have c2 : chF m B mem0 mem2 [29] := by rw [e2]; exact chF.fld hmB
      have t2 : mem2 m 29 = 0 := by rw [e2]; exact gup_s _ _ _ _
      refine g_iconst hC dX10_import0_88 ?_
      refine g_iret hC hI rfl dX10_import0_89 (Nat.le_of_ble_eq_true rfl) (Nat.le_of_ble_eq_true rfl) ⟨rfl, rfl, _, rfl, ?_⟩
      left
      refine ⟨?_, rfl, ⟨hvL.st c2 (by decide), hvM.st c2 (by decide), hvS.st c2 (by decide), hvC.st c2 (by decide), hvD.st c2 (by decide), hvO.st c2 (by decide), ⟨t2, fun j hj => absurd hj (Nat.not_lt_zero j)⟩, hvT.st c2 (by decide)⟩, chA.trans hc0.2 c2.2⟩
      rcases hb with ⟨-, w⟩ | ⟨w, -⟩
      · exact w
      · omega
  refine g_aload_n hC dX10_import0_0 rfl ?_
  refine g_iconst hC dX10_import0_1 ?_
  refine g_putI hC fdX10_84 (by assumption) rfl rfl dX10_import0_2 ?_
  rw [← e0]
  refine g_iload_n hC dX10_import0_5 rfl ?_
  refine g_sipush hC dX10_import0_6 (by decide +kernel) ?_
  refine g_iand hC dX10_import0_9 ?_
  refine g_topI (iI_and255 _) ?_
  refine g_istore_n hC 2 rfl dX10_import0_10 (Nat.le_of_ble_eq_true rfl) ?_
  dsimp only [List.set]
  refine g_aload_n hC dX10_import0_11 rfl ?_
  refine g_getI hC fdX10_194 (by assumption) dX10_import0_12 ?_
  refine g_if_ne (tgt := 24) hC dX10_import0_15 (by decide) ⟨by omega, by omega⟩ (fun h15 => ?_) (fun h15 => ?_)
  · refine g_aload_n hC dX10_import0_24 rfl ?_
    refine g_getI hC fdX10_194 (by assumption) dX10_import0_25 ?_
    refine g_iconst hC dX10_import0_28 ?_
    refine g_icmp_ne (tgt := 46) hC dX10_import0_29 (by decide) ⟨by omega, by omega⟩ ⟨by omega, by omega⟩ (fun h29 => ?_) (fun h29 => ?_)
    · refine g_aload_n hC dX10_import0_46 rfl ?_
      refine g_getI hC fdX10_194 (by assumption) dX10_import0_47 ?_
      refine g_iconst hC dX10_import0_50 ?_
      refine g_icmp_ne (tgt := 59) hC dX10_import0_51 (by decide) ⟨by omega, by omega⟩ ⟨by omega, by omega⟩ (fun h51 => ?_) (fun h51 => ?_)
      · refine g_aload_n hC dX10_import0_59 rfl ?_
        refine g_getI hC fdX10_194 (by assumption) dX10_import0_60 ?_
        refine g_iconst hC dX10_import0_63 ?_
        refine g_icmp_ne (tgt := 77) hC dX10_import0_64 (by decide) ⟨by omega, by omega⟩ ⟨by omega, by omega⟩ (fun h64 => ?_) (fun h64 => ?_)
        · refine g_iconst hC dX10_import0_77 ?_
          first | exact J78 1 (Or.inl ⟨rfl, fun w => by have := fq.mp w; omega⟩) | exact J78 0 (Or.inr ⟨rfl, fq.mpr (by omega)⟩)
        · refine g_iload_n hC dX10_import0_67 rfl ?_
          refine g_bipush hC dX10_import0_68 (by decide +kernel) ?_
          refine g_icmp_le (tgt := 77) hC dX10_import0_70 (by decide) ⟨by omega, by omega⟩ ⟨by omega, by omega⟩ (fun h70 => ?_) (fun h70 => ?_)
          · refine g_iconst hC dX10_import0_77 ?_
            first | exact J78 1 (Or.inl ⟨rfl, fun w => by have := fq.mp w; omega⟩) | exact J78 0 (Or.inr ⟨rfl, fq.mpr (by omega)⟩)
          · refine g_iconst hC dX10_import0_73 ?_
            refine g_goto (tgt := 78) hC dX10_import0_74 (by decide) ?_
            first | exact J78 1 (Or.inl ⟨rfl, fun w => by have := fq.mp w; omega⟩) | exact J78 0 (Or.inr ⟨rfl, fq.mpr (by omega)⟩)
      · refine g_iload_n hC dX10_import0_54 rfl ?_
        refine g_iconst hC dX10_import0_55 ?_
        refine g_icmp_gt (tgt := 73) hC dX10_import0_56 (by decide) ⟨by omega, by omega⟩ ⟨by omega, by omega⟩ (fun h56 => ?_) (fun h56 => ?_)
        · refine g_iconst hC dX10_import0_73 ?_
          refine g_goto (tgt := 78) hC dX10_import0_74 (by decide) ?_
          first | exact J78 1 (Or.inl ⟨rfl, fun w => by have := fq.mp w; omega⟩) | exact J78 0 (Or.inr ⟨rfl, fq.mpr (by omega)⟩)
        · refine g_aload_n hC dX10_import0_59 rfl ?_
          refine g_getI hC fdX10_194 (by assumption) dX10_import0_60 ?_
          refine g_iconst hC dX10_import0_63 ?_
          refine g_icmp_ne (tgt := 77) hC dX10_import0_64 (by decide) ⟨by omega, by omega⟩ ⟨by omega, by omega⟩ (fun h64 => ?_) (fun h64 => ?_)
          · refine g_iconst hC dX10_import0_77 ?_
            first | exact J78 1 (Or.inl ⟨rfl, fun w => by have := fq.mp w; omega⟩) | exact J78 0 (Or.inr ⟨rfl, fq.mpr (by omega)⟩)
          · refine g_iload_n hC dX10_import0_67 rfl ?_
            refine g_bipush hC dX10_import0_68 (by decide +kernel) ?_
            refine g_icmp_le (tgt := 77) hC dX10_import0_70 (by decide) ⟨by omega, by omega⟩ ⟨by omega, by omega⟩ (fun h70 => ?_) (fun h70 => ?_)
            · refine g_iconst hC dX10_import0_77 ?_
              first | exact J78 1 (Or.inl ⟨rfl, fun w => by have := fq.mp w; omega⟩) | exact J78 0 (Or.inr ⟨rfl, fq.mpr (by omega)⟩)
            · refine g_iconst hC dX10_import0_73 ?_
              refine g_goto (tgt := 78) hC dX10_import0_74 (by decide) ?_
              first | exact J78 1 (Or.inl ⟨rfl, fun w => by have := fq.mp w; omega⟩) | exact J78 0 (Or.inr ⟨rfl, fq.mpr (by omega)⟩)
    · refine g_iload_n hC dX10_import0_32 rfl ?_
      refine g_bipush hC dX10_import0_33 (by decide +kernel) ?_
      refine g_icmp_gt (tgt := 73) hC dX10_import0_35 (by decide) ⟨by omega, by omega⟩ ⟨by omega, by omega⟩ (fun h35 => ?_) (fun h35 => ?_)
      · refine g_iconst hC dX10_import0_73 ?_
        refine g_goto (tgt := 78) hC dX10_import0_74 (by decide) ?_
        first | exact J78 1 (Or.inl ⟨rfl, fun w => by have := fq.mp w; omega⟩) | exact J78 0 (Or.inr ⟨rfl, fq.mpr (by omega)⟩)
      · refine g_aload_n hC dX10_import0_38 rfl ?_
        refine g_iload_n hC dX10_import0_39 rfl ?_
        refine g_VP hC (kX10_bars (gl X) (gD X) (gac X) m B ss (b % 256) hM9 hvS kS ⟨by omega, by omega⟩) cvX10_bars lkX10_197 (by assumption) rfl rfl (Nat.le_of_ble_eq_true rfl) (hI.fit (Nat.le_of_ble_eq_true rfl) (Nat.le_of_ble_eq_true rfl) (Nat.le_of_ble_eq_true rfl)) dX10_import0_40 (fun x40 hx40 => ?_)
        have h40 : x40 = c := by
          rcases hx40 with ⟨w1, w2⟩ | ⟨w1, w2⟩ <;> rcases hc with ⟨u1, u2⟩ | ⟨u1, u2⟩
          · omega
          · exact absurd u2 w2
          · exact absurd w2 u2
          · omega
        refine g_if_ne (tgt := 73) hC dX10_import0_43 (by decide) ⟨by omega, by omega⟩ (fun h43 => ?_) (fun h43 => ?_)
        · refine g_iconst hC dX10_import0_73 ?_
          refine g_goto (tgt := 78) hC dX10_import0_74 (by decide) ?_
          first | exact J78 1 (Or.inl ⟨rfl, fun w => by have := fq.mp w; omega⟩) | exact J78 0 (Or.inr ⟨rfl, fq.mpr (by omega)⟩)
        · refine g_aload_n hC dX10_import0_46 rfl ?_
          refine g_getI hC fdX10_194 (by assumption) dX10_import0_47 ?_
          refine g_iconst hC dX10_import0_50 ?_
          refine g_icmp_ne (tgt := 59) hC dX10_import0_51 (by decide) ⟨by omega, by omega⟩ ⟨by omega, by omega⟩ (fun h51 => ?_) (fun h51 => ?_)
          · refine g_aload_n hC dX10_import0_59 rfl ?_
            refine g_getI hC fdX10_194 (by assumption) dX10_import0_60 ?_
            refine g_iconst hC dX10_import0_63 ?_
            refine g_icmp_ne (tgt := 77) hC dX10_import0_64 (by decide) ⟨by omega, by omega⟩ ⟨by omega, by omega⟩ (fun h64 => ?_) (fun h64 => ?_)
            · refine g_iconst hC dX10_import0_77 ?_
              first | exact J78 1 (Or.inl ⟨rfl, fun w => by have := fq.mp w; omega⟩) | exact J78 0 (Or.inr ⟨rfl, fq.mpr (by omega)⟩)
            · refine g_iload_n hC dX10_import0_67 rfl ?_
              refine g_bipush hC dX10_import0_68 (by decide +kernel) ?_
              refine g_icmp_le (tgt := 77) hC dX10_import0_70 (by decide) ⟨by omega, by omega⟩ ⟨by omega, by omega⟩ (fun h70 => ?_) (fun h70 => ?_)
              · refine g_iconst hC dX10_import0_77 ?_
                first | exact J78 1 (Or.inl ⟨rfl, fun w => by have := fq.mp w; omega⟩) | exact J78 0 (Or.inr ⟨rfl, fq.mpr (by omega)⟩)
              · refine g_iconst hC dX10_import0_73 ?_
                refine g_goto (tgt := 78) hC dX10_import0_74 (by decide) ?_
                first | exact J78 1 (Or.inl ⟨rfl, fun w => by have := fq.mp w; omega⟩) | exact J78 0 (Or.inr ⟨rfl, fq.mpr (by omega)⟩)
          · refine g_iload_n hC dX10_import0_54 rfl ?_
            refine g_iconst hC dX10_import0_55 ?_
            refine g_icmp_gt (tgt := 73) hC dX10_import0_56 (by decide) ⟨by omega, by omega⟩ ⟨by omega, by omega⟩ (fun h56 => ?_) (fun h56 => ?_)
            · refine g_iconst hC dX10_import0_73 ?_
              refine g_goto (tgt := 78) hC dX10_import0_74 (by decide) ?_
              first | exact J78 1 (Or.inl ⟨rfl, fun w => by have := fq.mp w; omega⟩) | exact J78 0 (Or.inr ⟨rfl, fq.mpr (by omega)⟩)
            · refine g_aload_n hC dX10_import0_59 rfl ?_
              refine g_getI hC fdX10_194 (by assumption) dX10_import0_60 ?_
              refine g_iconst hC dX10_import0_63 ?_
              refine g_icmp_ne (tgt := 77) hC dX10_import0_64 (by decide) ⟨by omega, by omega⟩ ⟨by omega, by omega⟩ (fun h64 => ?_) (fun h64 => ?_)
              · refine g_iconst hC dX10_import0_77 ?_
                first | exact J78 1 (Or.inl ⟨rfl, fun w => by have := fq.mp w; omega⟩) | exact J78 0 (Or.inr ⟨rfl, fq.mpr (by omega)⟩)
              · refine g_iload_n hC dX10_import0_67 rfl ?_
                refine g_bipush hC dX10_import0_68 (by decide +kernel) ?_
                refine g_icmp_le (tgt := 77) hC dX10_import0_70 (by decide) ⟨by omega, by omega⟩ ⟨by omega, by omega⟩ (fun h70 => ?_) (fun h70 => ?_)
                · refine g_iconst hC dX10_import0_77 ?_
                  first | exact J78 1 (Or.inl ⟨rfl, fun w => by have := fq.mp w; omega⟩) | exact J78 0 (Or.inr ⟨rfl, fq.mpr (by omega)⟩)
                · refine g_iconst hC dX10_import0_73 ?_
                  refine g_goto (tgt := 78) hC dX10_import0_74 (by decide) ?_
                  first | exact J78 1 (Or.inl ⟨rfl, fun w => by have := fq.mp w; omega⟩) | exact J78 0 (Or.inr ⟨rfl, fq.mpr (by omega)⟩)
  · refine g_iload_n hC dX10_import0_18 rfl ?_
    refine g_bipush hC dX10_import0_19 (by decide +kernel) ?_
    refine g_icmp_ne (tgt := 73) hC dX10_import0_21 (by decide) ⟨by omega, by omega⟩ ⟨by omega, by omega⟩ (fun h21 => ?_) (fun h21 => ?_)
    · refine g_iconst hC dX10_import0_73 ?_
      refine g_goto (tgt := 78) hC dX10_import0_74 (by decide) ?_
      first | exact J78 1 (Or.inl ⟨rfl, fun w => by have := fq.mp w; omega⟩) | exact J78 0 (Or.inr ⟨rfl, fq.mpr (by omega)⟩)
    · refine g_aload_n hC dX10_import0_24 rfl ?_
      refine g_getI hC fdX10_194 (by assumption) dX10_import0_25 ?_
      refine g_iconst hC dX10_import0_28 ?_
      refine g_icmp_ne (tgt := 46) hC dX10_import0_29 (by decide) ⟨by omega, by omega⟩ ⟨by omega, by omega⟩ (fun h29 => ?_) (fun h29 => ?_)
      · refine g_aload_n hC dX10_import0_46 rfl ?_
        refine g_getI hC fdX10_194 (by assumption) dX10_import0_47 ?_
        refine g_iconst hC dX10_import0_50 ?_
        refine g_icmp_ne (tgt := 59) hC dX10_import0_51 (by decide) ⟨by omega, by omega⟩ ⟨by omega, by omega⟩ (fun h51 => ?_) (fun h51 => ?_)
        · refine g_aload_n hC dX10_import0_59 rfl ?_
          refine g_getI hC fdX10_194 (by assumption) dX10_import0_60 ?_
          refine g_iconst hC dX10_import0_63 ?_
          refine g_icmp_ne (tgt := 77) hC dX10_import0_64 (by decide) ⟨by omega, by omega⟩ ⟨by omega, by omega⟩ (fun h64 => ?_) (fun h64 => ?_)
          · refine g_iconst hC dX10_import0_77 ?_
            first | exact J78 1 (Or.inl ⟨rfl, fun w => by have := fq.mp w; omega⟩) | exact J78 0 (Or.inr ⟨rfl, fq.mpr (by omega)⟩)
          · refine g_iload_n hC dX10_import0_67 rfl ?_
            refine g_bipush hC dX10_import0_68 (by decide +kernel) ?_
            refine g_icmp_le (tgt := 77) hC dX10_import0_70 (by decide) ⟨by omega, by omega⟩ ⟨by omega, by omega⟩ (fun h70 => ?_) (fun h70 => ?_)
            · refine g_iconst hC dX10_import0_77 ?_
              first | exact J78 1 (Or.inl ⟨rfl, fun w => by have := fq.mp w; omega⟩) | exact J78 0 (Or.inr ⟨rfl, fq.mpr (by omega)⟩)
            · refine g_iconst hC dX10_import0_73 ?_
              refine g_goto (tgt := 78) hC dX10_import0_74 (by decide) ?_
              first | exact J78 1 (Or.inl ⟨rfl, fun w => by have := fq.mp w; omega⟩) | exact J78 0 (Or.inr ⟨rfl, fq.mpr (by omega)⟩)
        · refine g_iload_n hC dX10_import0_54 rfl ?_
          refine g_iconst hC dX10_import0_55 ?_
          refine g_icmp_gt (tgt := 73) hC dX10_import0_56 (by decide) ⟨by omega, by omega⟩ ⟨by omega, by omega⟩ (fun h56 => ?_) (fun h56 => ?_)
          · refine g_iconst hC dX10_import0_73 ?_
            refine g_goto (tgt := 78) hC dX10_import0_74 (by decide) ?_
            first | exact J78 1 (Or.inl ⟨rfl, fun w => by have := fq.mp w; omega⟩) | exact J78 0 (Or.inr ⟨rfl, fq.mpr (by omega)⟩)
          · refine g_aload_n hC dX10_import0_59 rfl ?_
            refine g_getI hC fdX10_194 (by assumption) dX10_import0_60 ?_
            refine g_iconst hC dX10_import0_63 ?_
            refine g_icmp_ne (tgt := 77) hC dX10_import0_64 (by decide) ⟨by omega, by omega⟩ ⟨by omega, by omega⟩ (fun h64 => ?_) (fun h64 => ?_)
            · refine g_iconst hC dX10_import0_77 ?_
              first | exact J78 1 (Or.inl ⟨rfl, fun w => by have := fq.mp w; omega⟩) | exact J78 0 (Or.inr ⟨rfl, fq.mpr (by omega)⟩)
            · refine g_iload_n hC dX10_import0_67 rfl ?_
              refine g_bipush hC dX10_import0_68 (by decide +kernel) ?_
              refine g_icmp_le (tgt := 77) hC dX10_import0_70 (by decide) ⟨by omega, by omega⟩ ⟨by omega, by omega⟩ (fun h70 => ?_) (fun h70 => ?_)
              · refine g_iconst hC dX10_import0_77 ?_
                first | exact J78 1 (Or.inl ⟨rfl, fun w => by have := fq.mp w; omega⟩) | exact J78 0 (Or.inr ⟨rfl, fq.mpr (by omega)⟩)
              · refine g_iconst hC dX10_import0_73 ?_
                refine g_goto (tgt := 78) hC dX10_import0_74 (by decide) ?_
                first | exact J78 1 (Or.inl ⟨rfl, fun w => by have := fq.mp w; omega⟩) | exact J78 0 (Or.inr ⟨rfl, fq.mpr (by omega)⟩)
      · refine g_iload_n hC dX10_import0_32 rfl ?_
        refine g_bipush hC dX10_import0_33 (by decide +kernel) ?_
        refine g_icmp_gt (tgt := 73) hC dX10_import0_35 (by decide) ⟨by omega, by omega⟩ ⟨by omega, by omega⟩ (fun h35 => ?_) (fun h35 => ?_)
        · refine g_iconst hC dX10_import0_73 ?_
          refine g_goto (tgt := 78) hC dX10_import0_74 (by decide) ?_
          first | exact J78 1 (Or.inl ⟨rfl, fun w => by have := fq.mp w; omega⟩) | exact J78 0 (Or.inr ⟨rfl, fq.mpr (by omega)⟩)
        · refine g_aload_n hC dX10_import0_38 rfl ?_
          refine g_iload_n hC dX10_import0_39 rfl ?_
          refine g_VP hC (kX10_bars (gl X) (gD X) (gac X) m B ss (b % 256) hM9 hvS kS ⟨by omega, by omega⟩) cvX10_bars lkX10_197 (by assumption) rfl rfl (Nat.le_of_ble_eq_true rfl) (hI.fit (Nat.le_of_ble_eq_true rfl) (Nat.le_of_ble_eq_true rfl) (Nat.le_of_ble_eq_true rfl)) dX10_import0_40 (fun x40 hx40 => ?_)
          have h40 : x40 = c := by
            rcases hx40 with ⟨w1, w2⟩ | ⟨w1, w2⟩ <;> rcases hc with ⟨u1, u2⟩ | ⟨u1, u2⟩
            · omega
            · exact absurd u2 w2
            · exact absurd w2 u2
            · omega
          refine g_if_ne (tgt := 73) hC dX10_import0_43 (by decide) ⟨by omega, by omega⟩ (fun h43 => ?_) (fun h43 => ?_)
          · refine g_iconst hC dX10_import0_73 ?_
            refine g_goto (tgt := 78) hC dX10_import0_74 (by decide) ?_
            first | exact J78 1 (Or.inl ⟨rfl, fun w => by have := fq.mp w; omega⟩) | exact J78 0 (Or.inr ⟨rfl, fq.mpr (by omega)⟩)
          · refine g_aload_n hC dX10_import0_46 rfl ?_
            refine g_getI hC fdX10_194 (by assumption) dX10_import0_47 ?_
            refine g_iconst hC dX10_import0_50 ?_
            refine g_icmp_ne (tgt := 59) hC dX10_import0_51 (by decide) ⟨by omega, by omega⟩ ⟨by omega, by omega⟩ (fun h51 => ?_) (fun h51 => ?_)
            · refine g_aload_n hC dX10_import0_59 rfl ?_
              refine g_getI hC fdX10_194 (by assumption) dX10_import0_60 ?_
              refine g_iconst hC dX10_import0_63 ?_
              refine g_icmp_ne (tgt := 77) hC dX10_import0_64 (by decide) ⟨by omega, by omega⟩ ⟨by omega, by omega⟩ (fun h64 => ?_) (fun h64 => ?_)
              · refine g_iconst hC dX10_import0_77 ?_
                first | exact J78 1 (Or.inl ⟨rfl, fun w => by have := fq.mp w; omega⟩) | exact J78 0 (Or.inr ⟨rfl, fq.mpr (by omega)⟩)
              · refine g_iload_n hC dX10_import0_67 rfl ?_
                refine g_bipush hC dX10_import0_68 (by decide +kernel) ?_
                refine g_icmp_le (tgt := 77) hC dX10_import0_70 (by decide) ⟨by omega, by omega⟩ ⟨by omega, by omega⟩ (fun h70 => ?_) (fun h70 => ?_)
                · refine g_iconst hC dX10_import0_77 ?_
                  first | exact J78 1 (Or.inl ⟨rfl, fun w => by have := fq.mp w; omega⟩) | exact J78 0 (Or.inr ⟨rfl, fq.mpr (by omega)⟩)
                · refine g_iconst hC dX10_import0_73 ?_
                  refine g_goto (tgt := 78) hC dX10_import0_74 (by decide) ?_
                  first | exact J78 1 (Or.inl ⟨rfl, fun w => by have := fq.mp w; omega⟩) | exact J78 0 (Or.inr ⟨rfl, fq.mpr (by omega)⟩)
            · refine g_iload_n hC dX10_import0_54 rfl ?_
              refine g_iconst hC dX10_import0_55 ?_
              refine g_icmp_gt (tgt := 73) hC dX10_import0_56 (by decide) ⟨by omega, by omega⟩ ⟨by omega, by omega⟩ (fun h56 => ?_) (fun h56 => ?_)
              · refine g_iconst hC dX10_import0_73 ?_
                refine g_goto (tgt := 78) hC dX10_import0_74 (by decide) ?_
                first | exact J78 1 (Or.inl ⟨rfl, fun w => by have := fq.mp w; omega⟩) | exact J78 0 (Or.inr ⟨rfl, fq.mpr (by omega)⟩)
              · refine g_aload_n hC dX10_import0_59 rfl ?_
                refine g_getI hC fdX10_194 (by assumption) dX10_import0_60 ?_
                refine g_iconst hC dX10_import0_63 ?_
                refine g_icmp_ne (tgt := 77) hC dX10_import0_64 (by decide) ⟨by omega, by omega⟩ ⟨by omega, by omega⟩ (fun h64 => ?_) (fun h64 => ?_)
                · refine g_iconst hC dX10_import0_77 ?_
                  first | exact J78 1 (Or.inl ⟨rfl, fun w => by have := fq.mp w; omega⟩) | exact J78 0 (Or.inr ⟨rfl, fq.mpr (by omega)⟩)
                · refine g_iload_n hC dX10_import0_67 rfl ?_
                  refine g_bipush hC dX10_import0_68 (by decide +kernel) ?_
                  refine g_icmp_le (tgt := 77) hC dX10_import0_70 (by decide) ⟨by omega, by omega⟩ ⟨by omega, by omega⟩ (fun h70 => ?_) (fun h70 => ?_)
                  · refine g_iconst hC dX10_import0_77 ?_
                    first | exact J78 1 (Or.inl ⟨rfl, fun w => by have := fq.mp w; omega⟩) | exact J78 0 (Or.inr ⟨rfl, fq.mpr (by omega)⟩)
                  · refine g_iconst hC dX10_import0_73 ?_
                    refine g_goto (tgt := 78) hC dX10_import0_74 (by decide) ?_
                    first | exact J78 1 (Or.inl ⟨rfl, fun w => by have := fq.mp w; omega⟩) | exact J78 0 (Or.inr ⟨rfl, fq.mpr (by omega)⟩)
