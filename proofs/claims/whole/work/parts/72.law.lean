set_option maxHeartbeats 4000000 in
set_option maxRecDepth 100000 in
theorem law_c0 {X : gX} (hC : gC X cL_law RL) (hR : gRm X = room_1) {b L : Nat} {xs : Nat → Int32} (hB : gScr X b L xs) (hL : L ≤ 2560) {G : Nat → Prop} {sh : Nat → Nat × Nat} {rf : Nat → Nat → Option Nat} {mem : Nat → Nat → Int} {x m o : Nat} {A B : Nat → Nat} {rp ex ar : List Int} {ms : List (Option MemT)} {ss : List (Option SetT)} {ch : Lns} {ds : Dfs} {lk : Nat} {g y z : Int} (hS : LSt G sh rf mem x m o A B rp ms ss ch ds lk ex ar g y z) {i cells slots : Nat} (hi : (i : Int) + 5 ≤ L) (hcs : cells ≤ 600000) (hsl : slots ≤ 7200000) {o5 o6 : Option Value} (hK : ∀ (sh1 : Nat → Nat × Nat) (rf1 : Nat → Nat → Option Nat) (mem1 : Nat → Nat → Int) (cells1 slots1 : Nat) (B1 : Nat → Nat) (rp1 ex1 ar1 : List Int) (ms1 : List (Option MemT)) (ss1 : List (Option SetT)) (ch1 : Lns) (ds1 : Dfs) (lk1 : Nat) (g1 y1 z1 : Int) o5 o6, LSt G sh1 rf1 mem1 x m o A B1 rp1 ms1 ss1 ch1 ds1 lk1 ex1 ar1 g1 y1 z1 → cells1 + 4 * ms.length ≤ cells + 4 * ms1.length + 10 → slots1 + 364 * ms.length ≤ slots + 364 * ms1.length + 1000 → gG X sh1 rf1 mem1 cells1 slots1 1205 [some (.ref b), some (.ref x), some (.ref m), some (.ref o), some (.int (iI i)), o5, o6] []) : gG X sh rf mem cells slots 164 [some (.ref b), some (.ref x), some (.ref m), some (.ref o), some (.int (iI i)), o5, o6] [] := by
  have hS9 := hS
  obtain ⟨⟨la, l0, l1, l2, sa, ra, hW⟩, hM, hV, hG, so, hI, hmo, hbo⟩ := hS
  have ho := hW.1.1
  obtain ⟨kR, kM, kS, kL, kD, klk, kE1, kE2, kA, kT⟩ := hW.ok
  have kC := hI.okC kL
  have kE := hI.2.1
  have kAr := hI.2.2
  obtain ⟨a1, ea1⟩ : ∃ a, a = (xs ((i : Int) + 1).toNat).toInt := ⟨_, rfl⟩
  have r1 : inR a1 := by rw [ea1]; exact inR_of _
  have t1 : -2147483648 ≤ a1 ∧ a1 < 2147483648 := r1
  obtain ⟨a2, ea2⟩ : ∃ a, a = (xs ((i : Int) + 2).toNat).toInt := ⟨_, rfl⟩
  have r2 : inR a2 := by rw [ea2]; exact inR_of _
  have t2 : -2147483648 ≤ a2 ∧ a2 < 2147483648 := r2
  obtain ⟨a3, ea3⟩ : ∃ a, a = (xs ((i : Int) + 3).toNat).toInt := ⟨_, rfl⟩
  have r3 : inR a3 := by rw [ea3]; exact inR_of _
  have t3 : -2147483648 ≤ a3 ∧ a3 < 2147483648 := r3
  obtain ⟨a4, ea4⟩ : ∃ a, a = (xs ((i : Int) + 4).toNat).toInt := ⟨_, rfl⟩
  have r4 : inR a4 := by rw [ea4]; exact inR_of _
  have t4 : -2147483648 ≤ a4 ∧ a4 < 2147483648 := r4
  rcases (show a1 = 0 ∨ a1 ≠ 0 by omega) with hz | hz
  · refine g_aload_n hC dL_law_164 rfl ?_
    refine g_aload_n hC dL_law_165 rfl ?_
    refine g_iload hC dL_law_166 rfl ?_
    refine g_iconst hC dL_law_168 ?_
    refine g_iadd hC dL_law_169 ?_
    refine g_sld hC hB (by omega) (by omega) hL dL_law_170 ?_
    rw [← ea1]
    refine g_if_eq (tgt := 178) hC dL_law_171 (by decide) ⟨by omega, by omega⟩ (fun h171 => ?_) (fun h171 => ?_)
    · refine g_iconst hC dL_law_178 ?_
      refine g_VA hC (kX9_library (gl X) (gD X) (gac X) G x A la l0 l1 l2 sa ra rp ex ar ms ss ch ds lk g y z _ hW (by omega)) cvX9_library lkL_19 (by assumption) rfl rfl (Nat.le_of_ble_eq_true rfl) (gfitL hR (by omega) (by omega) (by omega)) dL_law_179 (fun x179 sh179 rf179 mem179 hx179 => ?_)
      obtain ⟨hr9, w9⟩ := hx179
      subst hr9
      obtain ⟨q1, q2, q3⟩ := hS9.mid w9.2
      refine g_re q1 (fun B1 hM1 hB1 hj1 => ?_)
      have hV1 := q2 B1 hB1
      have mo1 := hM1.1
      refine g_aload_n hC dL_law_182 rfl ?_
      refine g_aload_n hC dL_law_183 rfl ?_
      refine g_iload hC dL_law_184 rfl ?_
      refine g_iconst hC dL_law_186 ?_
      refine g_iadd hC dL_law_187 ?_
      refine g_sld hC hB (by omega) (by omega) hL dL_law_188 ?_
      rw [← ea1]
      refine g_if_eq (tgt := 196) hC dL_law_189 (by decide) ⟨by omega, by omega⟩ (fun h189 => ?_) (fun h189 => ?_)
      · refine g_iconst hC dL_law_196 ?_
        refine g_VM hC (kX10_library (gl X) (gD X) (gac X) m B1 rp ex ar ms ss ch ds lk g y z _ hM1 hV1 kR (by omega)) cvX10_library lkL_23 (by assumption) rfl rfl (Nat.le_of_ble_eq_true rfl) (gfitL hR (by omega) (by omega) (by omega)) dL_law_197 (fun x197 mem197 hx197 => ?_)
        obtain ⟨hr8, v2, c2⟩ := hx197
        subst hr8
        refine g_ceq (tgt := 1205) hC dL_law_200 (by decide) ?_
        exact hK _ _ _ _ _ B1 _ _ _ _ _ _ _ _ _ _ _ _ _ (hS9.next w9 hM1 hB1 hj1 v2 c2 hI) (by omega) (by omega)
      · exfalso; omega
    · exfalso; omega
  · refine g_aload_n hC dL_law_164 rfl ?_
    refine g_aload_n hC dL_law_165 rfl ?_
    refine g_iload hC dL_law_166 rfl ?_
    refine g_iconst hC dL_law_168 ?_
    refine g_iadd hC dL_law_169 ?_
    refine g_sld hC hB (by omega) (by omega) hL dL_law_170 ?_
    rw [← ea1]
    refine g_if_eq (tgt := 178) hC dL_law_171 (by decide) ⟨by omega, by omega⟩ (fun h171 => ?_) (fun h171 => ?_)
    · exfalso; omega
    · refine g_iconst hC dL_law_174 ?_
      refine g_goto (tgt := 179) hC dL_law_175 (by decide) ?_
      refine g_VA hC (kX9_library (gl X) (gD X) (gac X) G x A la l0 l1 l2 sa ra rp ex ar ms ss ch ds lk g y z _ hW (by omega)) cvX9_library lkL_19 (by assumption) rfl rfl (Nat.le_of_ble_eq_true rfl) (gfitL hR (by omega) (by omega) (by omega)) dL_law_179 (fun x179 sh179 rf179 mem179 hx179 => ?_)
      obtain ⟨hr9, w9⟩ := hx179
      subst hr9
      obtain ⟨q1, q2, q3⟩ := hS9.mid w9.2
      refine g_re q1 (fun B1 hM1 hB1 hj1 => ?_)
      have hV1 := q2 B1 hB1
      have mo1 := hM1.1
      refine g_aload_n hC dL_law_182 rfl ?_
      refine g_aload_n hC dL_law_183 rfl ?_
      refine g_iload hC dL_law_184 rfl ?_
      refine g_iconst hC dL_law_186 ?_
      refine g_iadd hC dL_law_187 ?_
      refine g_sld hC hB (by omega) (by omega) hL dL_law_188 ?_
      rw [← ea1]
      refine g_if_eq (tgt := 196) hC dL_law_189 (by decide) ⟨by omega, by omega⟩ (fun h189 => ?_) (fun h189 => ?_)
      · exfalso; omega
      · refine g_iconst hC dL_law_192 ?_
        refine g_goto (tgt := 197) hC dL_law_193 (by decide) ?_
        refine g_VM hC (kX10_library (gl X) (gD X) (gac X) m B1 rp ex ar ms ss ch ds lk g y z _ hM1 hV1 kR (by omega)) cvX10_library lkL_23 (by assumption) rfl rfl (Nat.le_of_ble_eq_true rfl) (gfitL hR (by omega) (by omega) (by omega)) dL_law_197 (fun x197 mem197 hx197 => ?_)
        obtain ⟨hr8, v2, c2⟩ := hx197
        subst hr8
        refine g_ceq (tgt := 1205) hC dL_law_200 (by decide) ?_
        exact hK _ _ _ _ _ B1 _ _ _ _ _ _ _ _ _ _ _ _ _ (hS9.next w9 hM1 hB1 hj1 v2 c2 hI) (by omega) (by omega)
set_option maxHeartbeats 4000000 in
set_option maxRecDepth 100000 in
theorem law_c1 {X : gX} (hC : gC X cL_law RL) (hR : gRm X = room_1) {b L : Nat} {xs : Nat → Int32} (hB : gScr X b L xs) (hL : L ≤ 2560) {G : Nat → Prop} {sh : Nat → Nat × Nat} {rf : Nat → Nat → Option Nat} {mem : Nat → Nat → Int} {x m o : Nat} {A B : Nat → Nat} {rp ex ar : List Int} {ms : List (Option MemT)} {ss : List (Option SetT)} {ch : Lns} {ds : Dfs} {lk : Nat} {g y z : Int} (hS : LSt G sh rf mem x m o A B rp ms ss ch ds lk ex ar g y z) {i cells slots : Nat} (hi : (i : Int) + 5 ≤ L) (hcs : cells ≤ 600000) (hsl : slots ≤ 7200000) {o5 o6 : Option Value} (hK : ∀ (sh1 : Nat → Nat × Nat) (rf1 : Nat → Nat → Option Nat) (mem1 : Nat → Nat → Int) (cells1 slots1 : Nat) (B1 : Nat → Nat) (rp1 ex1 ar1 : List Int) (ms1 : List (Option MemT)) (ss1 : List (Option SetT)) (ch1 : Lns) (ds1 : Dfs) (lk1 : Nat) (g1 y1 z1 : Int) o5 o6, LSt G sh1 rf1 mem1 x m o A B1 rp1 ms1 ss1 ch1 ds1 lk1 ex1 ar1 g1 y1 z1 → cells1 + 4 * ms.length ≤ cells + 4 * ms1.length + 10 → slots1 + 364 * ms.length ≤ slots + 364 * ms1.length + 1000 → gG X sh1 rf1 mem1 cells1 slots1 1205 [some (.ref b), some (.ref x), some (.ref m), some (.ref o), some (.int (iI i)), o5, o6] []) : gG X sh rf mem cells slots 205 [some (.ref b), some (.ref x), some (.ref m), some (.ref o), some (.int (iI i)), o5, o6] [] := by
  have hS9 := hS
  obtain ⟨⟨la, l0, l1, l2, sa, ra, hW⟩, hM, hV, hG, so, hI, hmo, hbo⟩ := hS
  have ho := hW.1.1
  obtain ⟨kR, kM, kS, kL, kD, klk, kE1, kE2, kA, kT⟩ := hW.ok
  have kC := hI.okC kL
  have kE := hI.2.1
  have kAr := hI.2.2
  obtain ⟨a1, ea1⟩ : ∃ a, a = (xs ((i : Int) + 1).toNat).toInt := ⟨_, rfl⟩
  have r1 : inR a1 := by rw [ea1]; exact inR_of _
  have t1 : -2147483648 ≤ a1 ∧ a1 < 2147483648 := r1
  obtain ⟨a2, ea2⟩ : ∃ a, a = (xs ((i : Int) + 2).toNat).toInt := ⟨_, rfl⟩
  have r2 : inR a2 := by rw [ea2]; exact inR_of _
  have t2 : -2147483648 ≤ a2 ∧ a2 < 2147483648 := r2
  obtain ⟨a3, ea3⟩ : ∃ a, a = (xs ((i : Int) + 3).toNat).toInt := ⟨_, rfl⟩
  have r3 : inR a3 := by rw [ea3]; exact inR_of _
  have t3 : -2147483648 ≤ a3 ∧ a3 < 2147483648 := r3
  obtain ⟨a4, ea4⟩ : ∃ a, a = (xs ((i : Int) + 4).toNat).toInt := ⟨_, rfl⟩
  have r4 : inR a4 := by rw [ea4]; exact inR_of _
  have t4 : -2147483648 ≤ a4 ∧ a4 < 2147483648 := r4
  refine g_aload_n hC dL_law_205 rfl ?_
  refine g_aload_n hC dL_law_206 rfl ?_
  refine g_iload hC dL_law_207 rfl ?_
  refine g_iconst hC dL_law_209 ?_
  refine g_iadd hC dL_law_210 ?_
  refine g_sld hC hB (by omega) (by omega) hL dL_law_211 ?_
  rw [← ea1]
  refine g_aload_n hC dL_law_212 rfl ?_
  refine g_iload hC dL_law_213 rfl ?_
  refine g_iconst hC dL_law_215 ?_
  refine g_iadd hC dL_law_216 ?_
  refine g_sld hC hB (by omega) (by omega) hL dL_law_217 ?_
  rw [← ea2]
  refine g_VA hC (kX9_member (gl X) (gD X) (gac X) G x A la l0 l1 l2 sa ra rp ex ar ms ss ch ds lk g y z a1 a2 hW r1 r2) cvX9_member lkL_24 (by assumption) rfl rfl (Nat.le_of_ble_eq_true rfl) (gfitL hR (by omega) (by omega) (by omega)) dL_law_218 (fun x218 sh218 rf218 mem218 hx218 => ?_)
  obtain ⟨hr9, w9⟩ := hx218
  subst hr9
  obtain ⟨q1, q2, q3⟩ := hS9.mid w9.2
  refine g_re q1 (fun B1 hM1 hB1 hj1 => ?_)
  have hV1 := q2 B1 hB1
  have mo1 := hM1.1
  refine g_aload_n hC dL_law_221 rfl ?_
  refine g_aload_n hC dL_law_222 rfl ?_
  refine g_iload hC dL_law_223 rfl ?_
  refine g_iconst hC dL_law_225 ?_
  refine g_iadd hC dL_law_226 ?_
  refine g_sld hC hB (by omega) (by omega) hL dL_law_227 ?_
  rw [← ea1]
  refine g_aload_n hC dL_law_228 rfl ?_
  refine g_iload hC dL_law_229 rfl ?_
  refine g_iconst hC dL_law_231 ?_
  refine g_iadd hC dL_law_232 ?_
  refine g_sld hC hB (by omega) (by omega) hL dL_law_233 ?_
  rw [← ea2]
  refine g_VM hC (kX10_member (gl X) (gD X) (gac X) m B1 rp ex ar ms ss ch ds lk g y z a1 a2 hM1 hV1 kR kM r1 r2) cvX10_member lkL_28 (by assumption) rfl rfl (Nat.le_of_ble_eq_true rfl) (gfitL hR (by omega) (by omega) (by omega)) dL_law_234 (fun x234 mem234 hx234 => ?_)
  obtain ⟨hr8, v2, c2⟩ := hx234
  subst hr8
  refine g_ceq (tgt := 1205) hC dL_law_237 (by decide) ?_
  have ml := mbrS_len (rp := rp) (ms := ms) a1 a2
  exact hK _ _ _ _ _ B1 _ _ _ _ _ _ _ _ _ _ _ _ _ (hS9.next w9 hM1 hB1 hj1 v2 c2 hI) (by omega) (by omega)
set_option maxHeartbeats 4000000 in
set_option maxRecDepth 100000 in
theorem law_c2 {X : gX} (hC : gC X cL_law RL) (hR : gRm X = room_1) {b L : Nat} {xs : Nat → Int32} (hB : gScr X b L xs) (hL : L ≤ 2560) {G : Nat → Prop} {sh : Nat → Nat × Nat} {rf : Nat → Nat → Option Nat} {mem : Nat → Nat → Int} {x m o : Nat} {A B : Nat → Nat} {rp ex ar : List Int} {ms : List (Option MemT)} {ss : List (Option SetT)} {ch : Lns} {ds : Dfs} {lk : Nat} {g y z : Int} (hS : LSt G sh rf mem x m o A B rp ms ss ch ds lk ex ar g y z) {i cells slots : Nat} (hi : (i : Int) + 5 ≤ L) (hcs : cells ≤ 600000) (hsl : slots ≤ 7200000) {o5 o6 : Option Value} (hK : ∀ (sh1 : Nat → Nat × Nat) (rf1 : Nat → Nat → Option Nat) (mem1 : Nat → Nat → Int) (cells1 slots1 : Nat) (B1 : Nat → Nat) (rp1 ex1 ar1 : List Int) (ms1 : List (Option MemT)) (ss1 : List (Option SetT)) (ch1 : Lns) (ds1 : Dfs) (lk1 : Nat) (g1 y1 z1 : Int) o5 o6, LSt G sh1 rf1 mem1 x m o A B1 rp1 ms1 ss1 ch1 ds1 lk1 ex1 ar1 g1 y1 z1 → cells1 + 4 * ms.length ≤ cells + 4 * ms1.length + 10 → slots1 + 364 * ms.length ≤ slots + 364 * ms1.length + 1000 → gG X sh1 rf1 mem1 cells1 slots1 1205 [some (.ref b), some (.ref x), some (.ref m), some (.ref o), some (.int (iI i)), o5, o6] []) : gG X sh rf mem cells slots 242 [some (.ref b), some (.ref x), some (.ref m), some (.ref o), some (.int (iI i)), o5, o6] [] := by
  have hS9 := hS
  obtain ⟨⟨la, l0, l1, l2, sa, ra, hW⟩, hM, hV, hG, so, hI, hmo, hbo⟩ := hS
  have ho := hW.1.1
  obtain ⟨kR, kM, kS, kL, kD, klk, kE1, kE2, kA, kT⟩ := hW.ok
  have kC := hI.okC kL
  have kE := hI.2.1
  have kAr := hI.2.2
  obtain ⟨a1, ea1⟩ : ∃ a, a = (xs ((i : Int) + 1).toNat).toInt := ⟨_, rfl⟩
  have r1 : inR a1 := by rw [ea1]; exact inR_of _
  have t1 : -2147483648 ≤ a1 ∧ a1 < 2147483648 := r1
  obtain ⟨a2, ea2⟩ : ∃ a, a = (xs ((i : Int) + 2).toNat).toInt := ⟨_, rfl⟩
  have r2 : inR a2 := by rw [ea2]; exact inR_of _
  have t2 : -2147483648 ≤ a2 ∧ a2 < 2147483648 := r2
  obtain ⟨a3, ea3⟩ : ∃ a, a = (xs ((i : Int) + 3).toNat).toInt := ⟨_, rfl⟩
  have r3 : inR a3 := by rw [ea3]; exact inR_of _
  have t3 : -2147483648 ≤ a3 ∧ a3 < 2147483648 := r3
  obtain ⟨a4, ea4⟩ : ∃ a, a = (xs ((i : Int) + 4).toNat).toInt := ⟨_, rfl⟩
  have r4 : inR a4 := by rw [ea4]; exact inR_of _
  have t4 : -2147483648 ≤ a4 ∧ a4 < 2147483648 := r4
  refine g_aload_n hC dL_law_242 rfl ?_
  refine g_aload_n hC dL_law_243 rfl ?_
  refine g_iload hC dL_law_244 rfl ?_
  refine g_iconst hC dL_law_246 ?_
  refine g_iadd hC dL_law_247 ?_
  refine g_sld hC hB (by omega) (by omega) hL dL_law_248 ?_
  rw [← ea1]
  refine g_aload_n hC dL_law_249 rfl ?_
  refine g_iload hC dL_law_250 rfl ?_
  refine g_iconst hC dL_law_252 ?_
  refine g_iadd hC dL_law_253 ?_
  refine g_sld hC hB (by omega) (by omega) hL dL_law_254 ?_
  rw [← ea2]
  refine g_aload_n hC dL_law_255 rfl ?_
  refine g_iload hC dL_law_256 rfl ?_
  refine g_iconst hC dL_law_258 ?_
  refine g_iadd hC dL_law_259 ?_
  refine g_sld hC hB (by omega) (by omega) hL dL_law_260 ?_
  rw [← ea3]
  refine g_VU hC (kX9_line (gl X) (gD X) (gac X) G x A la l0 l1 l2 sa ra rp ex ar ms ss ch ds lk g y z a1 a2 a3 hW r1 r2 r3) cvX9_line lkL_29 (by assumption) rfl rfl (Nat.le_of_ble_eq_true rfl) (gfitL hR (by omega) (by omega) (by omega)) dL_law_261 (fun sh261 rf261 mem261 hx261 => ?_)
  have w9 := hx261
  obtain ⟨q1, q2, q3⟩ := hS9.mid w9.2
  refine g_re q1 (fun B1 hM1 hB1 hj1 => ?_)
  have hV1 := q2 B1 hB1
  have mo1 := hM1.1
  refine g_aload_n hC dL_law_264 rfl ?_
  refine g_aload_n hC dL_law_265 rfl ?_
  refine g_iload hC dL_law_266 rfl ?_
  refine g_iconst hC dL_law_268 ?_
  refine g_iadd hC dL_law_269 ?_
  refine g_sld hC hB (by omega) (by omega) hL dL_law_270 ?_
  rw [← ea1]
  refine g_aload_n hC dL_law_271 rfl ?_
  refine g_iload hC dL_law_272 rfl ?_
  refine g_iconst hC dL_law_274 ?_
  refine g_iadd hC dL_law_275 ?_
  refine g_sld hC hB (by omega) (by omega) hL dL_law_276 ?_
  rw [← ea2]
  refine g_aload_n hC dL_law_277 rfl ?_
  refine g_iload hC dL_law_278 rfl ?_
  refine g_iconst hC dL_law_280 ?_
  refine g_iadd hC dL_law_281 ?_
  refine g_sld hC hB (by omega) (by omega) hL dL_law_282 ?_
  rw [← ea3]
  refine g_VV hC (kX10_line (gl X) (gD X) (gac X) m B1 rp ex ar ms ss ch ds lk g y z a1 a2 a3 hM1 hV1 kM r1 r2 r3) cvX10_line lkL_33 (by assumption) rfl rfl (Nat.le_of_ble_eq_true rfl) (gfitL hR (by omega) (by omega) (by omega)) dL_law_283 (fun mem283 hx283 => ?_)
  obtain ⟨v2, c2⟩ := hx283
  refine g_goto (tgt := 1205) hC dL_law_286 (by decide) ?_
  have ml := linS_len (ms := ms) a1 a2 a3
  exact hK _ _ _ _ _ B1 _ _ _ _ _ _ _ _ _ _ _ _ _ (hS9.next w9 hM1 hB1 hj1 v2 c2 hI) (by omega) (by omega)
set_option maxHeartbeats 4000000 in
set_option maxRecDepth 100000 in
theorem law_c3 {X : gX} (hC : gC X cL_law RL) (hR : gRm X = room_1) {b L : Nat} {xs : Nat → Int32} (hB : gScr X b L xs) (hL : L ≤ 2560) {G : Nat → Prop} {sh : Nat → Nat × Nat} {rf : Nat → Nat → Option Nat} {mem : Nat → Nat → Int} {x m o : Nat} {A B : Nat → Nat} {rp ex ar : List Int} {ms : List (Option MemT)} {ss : List (Option SetT)} {ch : Lns} {ds : Dfs} {lk : Nat} {g y z : Int} (hS : LSt G sh rf mem x m o A B rp ms ss ch ds lk ex ar g y z) {i cells slots : Nat} (hi : (i : Int) + 5 ≤ L) (hcs : cells ≤ 600000) (hsl : slots ≤ 7200000) {o5 o6 : Option Value} (hK : ∀ (sh1 : Nat → Nat × Nat) (rf1 : Nat → Nat → Option Nat) (mem1 : Nat → Nat → Int) (cells1 slots1 : Nat) (B1 : Nat → Nat) (rp1 ex1 ar1 : List Int) (ms1 : List (Option MemT)) (ss1 : List (Option SetT)) (ch1 : Lns) (ds1 : Dfs) (lk1 : Nat) (g1 y1 z1 : Int) o5 o6, LSt G sh1 rf1 mem1 x m o A B1 rp1 ms1 ss1 ch1 ds1 lk1 ex1 ar1 g1 y1 z1 → cells1 + 4 * ms.length ≤ cells + 4 * ms1.length + 10 → slots1 + 364 * ms.length ≤ slots + 364 * ms1.length + 1000 → gG X sh1 rf1 mem1 cells1 slots1 1205 [some (.ref b), some (.ref x), some (.ref m), some (.ref o), some (.int (iI i)), o5, o6] []) : gG X sh rf mem cells slots 289 [some (.ref b), some (.ref x), some (.ref m), some (.ref o), some (.int (iI i)), o5, o6] [] := by
  have hS9 := hS
  obtain ⟨⟨la, l0, l1, l2, sa, ra, hW⟩, hM, hV, hG, so, hI, hmo, hbo⟩ := hS
  have ho := hW.1.1
  obtain ⟨kR, kM, kS, kL, kD, klk, kE1, kE2, kA, kT⟩ := hW.ok
  have kC := hI.okC kL
  have kE := hI.2.1
  have kAr := hI.2.2
  obtain ⟨a1, ea1⟩ : ∃ a, a = (xs ((i : Int) + 1).toNat).toInt := ⟨_, rfl⟩
  have r1 : inR a1 := by rw [ea1]; exact inR_of _
  have t1 : -2147483648 ≤ a1 ∧ a1 < 2147483648 := r1
  obtain ⟨a2, ea2⟩ : ∃ a, a = (xs ((i : Int) + 2).toNat).toInt := ⟨_, rfl⟩
  have r2 : inR a2 := by rw [ea2]; exact inR_of _
  have t2 : -2147483648 ≤ a2 ∧ a2 < 2147483648 := r2
  obtain ⟨a3, ea3⟩ : ∃ a, a = (xs ((i : Int) + 3).toNat).toInt := ⟨_, rfl⟩
  have r3 : inR a3 := by rw [ea3]; exact inR_of _
  have t3 : -2147483648 ≤ a3 ∧ a3 < 2147483648 := r3
  obtain ⟨a4, ea4⟩ : ∃ a, a = (xs ((i : Int) + 4).toNat).toInt := ⟨_, rfl⟩
  have r4 : inR a4 := by rw [ea4]; exact inR_of _
  have t4 : -2147483648 ≤ a4 ∧ a4 < 2147483648 := r4
  have ml := cpyS_len (rp := rp) (ms := ms) (y := y) a1 a2 a3 a4
  have mu := cpyS_le (rp := rp) (ms := ms) (y := y) a1 a2 a3 a4
  refine g_aload_n hC dL_law_289 rfl ?_
  refine g_aload_n hC dL_law_290 rfl ?_
  refine g_iload hC dL_law_291 rfl ?_
  refine g_iconst hC dL_law_293 ?_
  refine g_iadd hC dL_law_294 ?_
  refine g_sld hC hB (by omega) (by omega) hL dL_law_295 ?_
  rw [← ea1]
  refine g_aload_n hC dL_law_296 rfl ?_
  refine g_iload hC dL_law_297 rfl ?_
  refine g_iconst hC dL_law_299 ?_
  refine g_iadd hC dL_law_300 ?_
  refine g_sld hC hB (by omega) (by omega) hL dL_law_301 ?_
  rw [← ea2]
  refine g_aload_n hC dL_law_302 rfl ?_
  refine g_iload hC dL_law_303 rfl ?_
  refine g_iconst hC dL_law_305 ?_
  refine g_iadd hC dL_law_306 ?_
  refine g_sld hC hB (by omega) (by omega) hL dL_law_307 ?_
  rw [← ea3]
  refine g_aload_n hC dL_law_308 rfl ?_
  refine g_iload hC dL_law_309 rfl ?_
  refine g_iconst hC dL_law_311 ?_
  refine g_iadd hC dL_law_312 ?_
  refine g_sld hC hB (by omega) (by omega) hL dL_law_313 ?_
  rw [← ea4]
  refine g_VA hC (kX9_copy (gl X) (gD X) (gac X) G x A la l0 l1 l2 sa ra rp ex ar ms ss ch ds lk g y z a1 a2 a3 a4 hW r1 r2 r3 r4) cvX9_copy lkL_34 (by assumption) rfl rfl (Nat.le_of_ble_eq_true rfl) (gfitL hR (by omega) (by omega) (by omega)) dL_law_314 (fun x314 sh314 rf314 mem314 hx314 => ?_)
  obtain ⟨hr9, w9⟩ := hx314
  subst hr9
  obtain ⟨q1, q2, q3⟩ := hS9.mid w9.2
  refine g_re q1 (fun B1 hM1 hB1 hj1 => ?_)
  have hV1 := q2 B1 hB1
  have mo1 := hM1.1
  refine g_aload_n hC dL_law_317 rfl ?_
  refine g_aload_n hC dL_law_318 rfl ?_
  refine g_iload hC dL_law_319 rfl ?_
  refine g_iconst hC dL_law_321 ?_
  refine g_iadd hC dL_law_322 ?_
  refine g_sld hC hB (by omega) (by omega) hL dL_law_323 ?_
  rw [← ea1]
  refine g_aload_n hC dL_law_324 rfl ?_
  refine g_iload hC dL_law_325 rfl ?_
  refine g_iconst hC dL_law_327 ?_
  refine g_iadd hC dL_law_328 ?_
  refine g_sld hC hB (by omega) (by omega) hL dL_law_329 ?_
  rw [← ea2]
  refine g_aload_n hC dL_law_330 rfl ?_
  refine g_iload hC dL_law_331 rfl ?_
  refine g_iconst hC dL_law_333 ?_
  refine g_iadd hC dL_law_334 ?_
  refine g_sld hC hB (by omega) (by omega) hL dL_law_335 ?_
  rw [← ea3]
  refine g_aload_n hC dL_law_336 rfl ?_
  refine g_iload hC dL_law_337 rfl ?_
  refine g_iconst hC dL_law_339 ?_
  refine g_iadd hC dL_law_340 ?_
  refine g_sld hC hB (by omega) (by omega) hL dL_law_341 ?_
  rw [← ea4]
  refine g_VM hC (kX10_copy (gl X) (gD X) (gac X) m B1 rp ex ar ms ss ch ds lk g y z a1 a2 a3 a4 hM1 hV1 kR kM kT r1 r2 r3 r4) cvX10_copy lkL_38 (by assumption) rfl rfl (Nat.le_of_ble_eq_true rfl) (gfitL hR (by omega) (by omega) (by omega)) dL_law_342 (fun x342 mem342 hx342 => ?_)
  obtain ⟨hr8, v2, c2⟩ := hx342
  subst hr8
  refine g_ceq (tgt := 1205) hC dL_law_345 (by decide) ?_
  exact hK _ _ _ _ _ B1 _ _ _ _ _ _ _ _ _ _ _ _ _ (hS9.next w9 hM1 hB1 hj1 v2 c2 hI) (by omega) (by omega)
set_option maxHeartbeats 4000000 in
set_option maxRecDepth 100000 in
theorem law_c4 {X : gX} (hC : gC X cL_law RL) (hR : gRm X = room_1) {b L : Nat} {xs : Nat → Int32} (hB : gScr X b L xs) (hL : L ≤ 2560) {G : Nat → Prop} {sh : Nat → Nat × Nat} {rf : Nat → Nat → Option Nat} {mem : Nat → Nat → Int} {x m o : Nat} {A B : Nat → Nat} {rp ex ar : List Int} {ms : List (Option MemT)} {ss : List (Option SetT)} {ch : Lns} {ds : Dfs} {lk : Nat} {g y z : Int} (hS : LSt G sh rf mem x m o A B rp ms ss ch ds lk ex ar g y z) {i cells slots : Nat} (hi : (i : Int) + 5 ≤ L) (hcs : cells ≤ 600000) (hsl : slots ≤ 7200000) {o5 o6 : Option Value} (hK : ∀ (sh1 : Nat → Nat × Nat) (rf1 : Nat → Nat → Option Nat) (mem1 : Nat → Nat → Int) (cells1 slots1 : Nat) (B1 : Nat → Nat) (rp1 ex1 ar1 : List Int) (ms1 : List (Option MemT)) (ss1 : List (Option SetT)) (ch1 : Lns) (ds1 : Dfs) (lk1 : Nat) (g1 y1 z1 : Int) o5 o6, LSt G sh1 rf1 mem1 x m o A B1 rp1 ms1 ss1 ch1 ds1 lk1 ex1 ar1 g1 y1 z1 → cells1 + 4 * ms.length ≤ cells + 4 * ms1.length + 10 → slots1 + 364 * ms.length ≤ slots + 364 * ms1.length + 1000 → gG X sh1 rf1 mem1 cells1 slots1 1205 [some (.ref b), some (.ref x), some (.ref m), some (.ref o), some (.int (iI i)), o5, o6] []) : gG X sh rf mem cells slots 350 [some (.ref b), some (.ref x), some (.ref m), some (.ref o), some (.int (iI i)), o5, o6] [] := by
  have hS9 := hS
  obtain ⟨⟨la, l0, l1, l2, sa, ra, hW⟩, hM, hV, hG, so, hI, hmo, hbo⟩ := hS
  have ho := hW.1.1
  obtain ⟨kR, kM, kS, kL, kD, klk, kE1, kE2, kA, kT⟩ := hW.ok
  have kC := hI.okC kL
  have kE := hI.2.1
  have kAr := hI.2.2
  obtain ⟨a1, ea1⟩ : ∃ a, a = (xs ((i : Int) + 1).toNat).toInt := ⟨_, rfl⟩
  have r1 : inR a1 := by rw [ea1]; exact inR_of _
  have t1 : -2147483648 ≤ a1 ∧ a1 < 2147483648 := r1
  obtain ⟨a2, ea2⟩ : ∃ a, a = (xs ((i : Int) + 2).toNat).toInt := ⟨_, rfl⟩
  have r2 : inR a2 := by rw [ea2]; exact inR_of _
  have t2 : -2147483648 ≤ a2 ∧ a2 < 2147483648 := r2
  obtain ⟨a3, ea3⟩ : ∃ a, a = (xs ((i : Int) + 3).toNat).toInt := ⟨_, rfl⟩
  have r3 : inR a3 := by rw [ea3]; exact inR_of _
  have t3 : -2147483648 ≤ a3 ∧ a3 < 2147483648 := r3
  obtain ⟨a4, ea4⟩ : ∃ a, a = (xs ((i : Int) + 4).toNat).toInt := ⟨_, rfl⟩
  have r4 : inR a4 := by rw [ea4]; exact inR_of _
  have t4 : -2147483648 ≤ a4 ∧ a4 < 2147483648 := r4
  have ml := movS_len (rp := rp) (ms := ms) (y := y) a1 a2 a3 a4
  have mu := movS_le (rp := rp) (ms := ms) (y := y) a1 a2 a3 a4
  refine g_aload_n hC dL_law_350 rfl ?_
  refine g_aload_n hC dL_law_351 rfl ?_
  refine g_iload hC dL_law_352 rfl ?_
  refine g_iconst hC dL_law_354 ?_
  refine g_iadd hC dL_law_355 ?_
  refine g_sld hC hB (by omega) (by omega) hL dL_law_356 ?_
  rw [← ea1]
  refine g_aload_n hC dL_law_357 rfl ?_
  refine g_iload hC dL_law_358 rfl ?_
  refine g_iconst hC dL_law_360 ?_
  refine g_iadd hC dL_law_361 ?_
  refine g_sld hC hB (by omega) (by omega) hL dL_law_362 ?_
  rw [← ea2]
  refine g_aload_n hC dL_law_363 rfl ?_
  refine g_iload hC dL_law_364 rfl ?_
  refine g_iconst hC dL_law_366 ?_
  refine g_iadd hC dL_law_367 ?_
  refine g_sld hC hB (by omega) (by omega) hL dL_law_368 ?_
  rw [← ea3]
  refine g_aload_n hC dL_law_369 rfl ?_
  refine g_iload hC dL_law_370 rfl ?_
  refine g_iconst hC dL_law_372 ?_
  refine g_iadd hC dL_law_373 ?_
  refine g_sld hC hB (by omega) (by omega) hL dL_law_374 ?_
  rw [← ea4]
  refine g_VA hC (kX9_move (gl X) (gD X) (gac X) G x A la l0 l1 l2 sa ra rp ex ar ms ss ch ds lk g y z a1 a2 a3 a4 hW r1 r2 r3 r4) cvX9_move lkL_39 (by assumption) rfl rfl (Nat.le_of_ble_eq_true rfl) (gfitL hR (by omega) (by omega) (by omega)) dL_law_375 (fun x375 sh375 rf375 mem375 hx375 => ?_)
  obtain ⟨hr9, w9⟩ := hx375
  subst hr9
  obtain ⟨q1, q2, q3⟩ := hS9.mid w9.2
  refine g_re q1 (fun B1 hM1 hB1 hj1 => ?_)
  have hV1 := q2 B1 hB1
  have mo1 := hM1.1
  refine g_aload_n hC dL_law_378 rfl ?_
  refine g_aload_n hC dL_law_379 rfl ?_
  refine g_iload hC dL_law_380 rfl ?_
  refine g_iconst hC dL_law_382 ?_
  refine g_iadd hC dL_law_383 ?_
  refine g_sld hC hB (by omega) (by omega) hL dL_law_384 ?_
  rw [← ea1]
  refine g_aload_n hC dL_law_385 rfl ?_
  refine g_iload hC dL_law_386 rfl ?_
  refine g_iconst hC dL_law_388 ?_
  refine g_iadd hC dL_law_389 ?_
  refine g_sld hC hB (by omega) (by omega) hL dL_law_390 ?_
  rw [← ea2]
  refine g_aload_n hC dL_law_391 rfl ?_
  refine g_iload hC dL_law_392 rfl ?_
  refine g_iconst hC dL_law_394 ?_
  refine g_iadd hC dL_law_395 ?_
  refine g_sld hC hB (by omega) (by omega) hL dL_law_396 ?_
  rw [← ea3]
  refine g_aload_n hC dL_law_397 rfl ?_
  refine g_iload hC dL_law_398 rfl ?_
  refine g_iconst hC dL_law_400 ?_
  refine g_iadd hC dL_law_401 ?_
  refine g_sld hC hB (by omega) (by omega) hL dL_law_402 ?_
  rw [← ea4]
  refine g_VM hC (kX10_move (gl X) (gD X) (gac X) m B1 rp ex ar ms ss ch ds lk g y z a1 a2 a3 a4 hM1 hV1 kR kM kT r1 r2 r3 r4) cvX10_move lkL_42 (by assumption) rfl rfl (Nat.le_of_ble_eq_true rfl) (gfitL hR (by omega) (by omega) (by omega)) dL_law_403 (fun x403 mem403 hx403 => ?_)
  obtain ⟨hr8, v2, c2⟩ := hx403
  subst hr8
  refine g_ceq (tgt := 1205) hC dL_law_406 (by decide) ?_
  exact hK _ _ _ _ _ B1 _ _ _ _ _ _ _ _ _ _ _ _ _ (hS9.next w9 hM1 hB1 hj1 v2 c2 hI) (by omega) (by omega)
set_option maxHeartbeats 4000000 in
set_option maxRecDepth 100000 in
theorem law_c5 {X : gX} (hC : gC X cL_law RL) (hR : gRm X = room_1) {b L : Nat} {xs : Nat → Int32} (hB : gScr X b L xs) (hL : L ≤ 2560) {G : Nat → Prop} {sh : Nat → Nat × Nat} {rf : Nat → Nat → Option Nat} {mem : Nat → Nat → Int} {x m o : Nat} {A B : Nat → Nat} {rp ex ar : List Int} {ms : List (Option MemT)} {ss : List (Option SetT)} {ch : Lns} {ds : Dfs} {lk : Nat} {g y z : Int} (hS : LSt G sh rf mem x m o A B rp ms ss ch ds lk ex ar g y z) {i cells slots : Nat} (hi : (i : Int) + 5 ≤ L) (hcs : cells ≤ 600000) (hsl : slots ≤ 7200000) {o5 o6 : Option Value} (hK : ∀ (sh1 : Nat → Nat × Nat) (rf1 : Nat → Nat → Option Nat) (mem1 : Nat → Nat → Int) (cells1 slots1 : Nat) (B1 : Nat → Nat) (rp1 ex1 ar1 : List Int) (ms1 : List (Option MemT)) (ss1 : List (Option SetT)) (ch1 : Lns) (ds1 : Dfs) (lk1 : Nat) (g1 y1 z1 : Int) o5 o6, LSt G sh1 rf1 mem1 x m o A B1 rp1 ms1 ss1 ch1 ds1 lk1 ex1 ar1 g1 y1 z1 → cells1 + 4 * ms.length ≤ cells + 4 * ms1.length + 10 → slots1 + 364 * ms.length ≤ slots + 364 * ms1.length + 1000 → gG X sh1 rf1 mem1 cells1 slots1 1205 [some (.ref b), some (.ref x), some (.ref m), some (.ref o), some (.int (iI i)), o5, o6] []) : gG X sh rf mem cells slots 411 [some (.ref b), some (.ref x), some (.ref m), some (.ref o), some (.int (iI i)), o5, o6] [] := by
  have hS9 := hS
  obtain ⟨⟨la, l0, l1, l2, sa, ra, hW⟩, hM, hV, hG, so, hI, hmo, hbo⟩ := hS
  have ho := hW.1.1
  obtain ⟨kR, kM, kS, kL, kD, klk, kE1, kE2, kA, kT⟩ := hW.ok
  have kC := hI.okC kL
  have kE := hI.2.1
  have kAr := hI.2.2
  obtain ⟨a1, ea1⟩ : ∃ a, a = (xs ((i : Int) + 1).toNat).toInt := ⟨_, rfl⟩
  have r1 : inR a1 := by rw [ea1]; exact inR_of _
  have t1 : -2147483648 ≤ a1 ∧ a1 < 2147483648 := r1
  obtain ⟨a2, ea2⟩ : ∃ a, a = (xs ((i : Int) + 2).toNat).toInt := ⟨_, rfl⟩
  have r2 : inR a2 := by rw [ea2]; exact inR_of _
  have t2 : -2147483648 ≤ a2 ∧ a2 < 2147483648 := r2
  obtain ⟨a3, ea3⟩ : ∃ a, a = (xs ((i : Int) + 3).toNat).toInt := ⟨_, rfl⟩
  have r3 : inR a3 := by rw [ea3]; exact inR_of _
  have t3 : -2147483648 ≤ a3 ∧ a3 < 2147483648 := r3
  obtain ⟨a4, ea4⟩ : ∃ a, a = (xs ((i : Int) + 4).toNat).toInt := ⟨_, rfl⟩
  have r4 : inR a4 := by rw [ea4]; exact inR_of _
  have t4 : -2147483648 ≤ a4 ∧ a4 < 2147483648 := r4
  refine g_aload_n hC dL_law_411 rfl ?_
  refine g_aload_n hC dL_law_412 rfl ?_
  refine g_iload hC dL_law_413 rfl ?_
  refine g_iconst hC dL_law_415 ?_
  refine g_iadd hC dL_law_416 ?_
  refine g_sld hC hB (by omega) (by omega) hL dL_law_417 ?_
  rw [← ea1]
  refine g_aload_n hC dL_law_418 rfl ?_
  refine g_iload hC dL_law_419 rfl ?_
  refine g_iconst hC dL_law_421 ?_
  refine g_iadd hC dL_law_422 ?_
  refine g_sld hC hB (by omega) (by omega) hL dL_law_423 ?_
  rw [← ea2]
  refine g_VA hC (kX9_compare (gl X) (gD X) (gac X) G x A la l0 l1 l2 sa ra rp ex ar ms ss ch ds lk g y z a1 a2 hW r1 r2) cvX9_compare lkL_43 (by assumption) rfl rfl (Nat.le_of_ble_eq_true rfl) (gfitL hR (by omega) (by omega) (by omega)) dL_law_424 (fun x424 sh424 rf424 mem424 hx424 => ?_)
  obtain ⟨es, P1, w9⟩ : ∃ es, cmpP ms lk ds a1 a2 x424 es ∧ WN G sh rf mem sh424 rf424 mem424 x A rp ms ss ch es lk ex ar g y z := by
    rcases hx424 with ⟨h1, h2, h3⟩ | ⟨p, q, es, h1, h2, h3, h4, h5⟩
    · exact ⟨ds, Or.inl ⟨h1, h2, rfl⟩, h3⟩
    · exact ⟨es, Or.inr ⟨p, q, h1, h2, h3, h4⟩, h5⟩
  obtain ⟨q1, q2, q3⟩ := hS9.mid w9.2
  refine g_re q1 (fun B1 hM1 hB1 hj1 => ?_)
  have hV1 := q2 B1 hB1
  have mo1 := hM1.1
  refine g_aload_n hC dL_law_427 rfl ?_
  refine g_aload_n hC dL_law_428 rfl ?_
  refine g_iload hC dL_law_429 rfl ?_
  refine g_iconst hC dL_law_431 ?_
  refine g_iadd hC dL_law_432 ?_
  refine g_sld hC hB (by omega) (by omega) hL dL_law_433 ?_
  rw [← ea1]
  refine g_aload_n hC dL_law_434 rfl ?_
  refine g_iload hC dL_law_435 rfl ?_
  refine g_iconst hC dL_law_437 ?_
  refine g_iadd hC dL_law_438 ?_
  refine g_sld hC hB (by omega) (by omega) hL dL_law_439 ?_
  rw [← ea2]
  refine g_VM hC (kX10_compare (gl X) (gD X) (gac X) m B1 rp ex ar ms ss ch ds lk g y z a1 a2 hM1 hV1 kM klk r1 r2) cvX10_compare lkL_46 (by assumption) rfl rfl (Nat.le_of_ble_eq_true rfl) (gfitL hR (by omega) (by omega) (by omega)) dL_law_440 (fun x440 mem440 hx440 => ?_)
  obtain ⟨es', P2, v2, c2⟩ : ∃ es', cmpP ms lk ds a1 a2 x440 es' ∧ MV m B1 mem440 rp ms ss ch es' lk ex ar g y z ∧ chA m B1 mem424 mem440 := by
    rcases hx440 with ⟨h1, h2, h3⟩ | ⟨p, q, es, h1, h2, h3, h4, h5⟩
    · exact ⟨ds, Or.inl ⟨h1, h2, rfl⟩, h3⟩
    · exact ⟨es, Or.inr ⟨p, q, h1, h2, h3, h4⟩, h5⟩
  obtain ⟨rfl, rfl⟩ := cmpP_one P1 P2
  refine g_ceq (tgt := 1205) hC dL_law_443 (by decide) ?_
  exact hK _ _ _ _ _ B1 _ _ _ _ _ _ _ _ _ _ _ _ _ (hS9.next w9 hM1 hB1 hj1 v2 c2 hI) (by omega) (by omega)
set_option maxHeartbeats 4000000 in
set_option maxRecDepth 100000 in
theorem law_c6 {X : gX} (hC : gC X cL_law RL) (hR : gRm X = room_1) {b L : Nat} {xs : Nat → Int32} (hB : gScr X b L xs) (hL : L ≤ 2560) {G : Nat → Prop} {sh : Nat → Nat × Nat} {rf : Nat → Nat → Option Nat} {mem : Nat → Nat → Int} {x m o : Nat} {A B : Nat → Nat} {rp ex ar : List Int} {ms : List (Option MemT)} {ss : List (Option SetT)} {ch : Lns} {ds : Dfs} {lk : Nat} {g y z : Int} (hS : LSt G sh rf mem x m o A B rp ms ss ch ds lk ex ar g y z) {i cells slots : Nat} (hi : (i : Int) + 5 ≤ L) (hcs : cells ≤ 600000) (hsl : slots ≤ 7200000) {o5 o6 : Option Value} (hK : ∀ (sh1 : Nat → Nat × Nat) (rf1 : Nat → Nat → Option Nat) (mem1 : Nat → Nat → Int) (cells1 slots1 : Nat) (B1 : Nat → Nat) (rp1 ex1 ar1 : List Int) (ms1 : List (Option MemT)) (ss1 : List (Option SetT)) (ch1 : Lns) (ds1 : Dfs) (lk1 : Nat) (g1 y1 z1 : Int) o5 o6, LSt G sh1 rf1 mem1 x m o A B1 rp1 ms1 ss1 ch1 ds1 lk1 ex1 ar1 g1 y1 z1 → cells1 + 4 * ms.length ≤ cells + 4 * ms1.length + 10 → slots1 + 364 * ms.length ≤ slots + 364 * ms1.length + 1000 → gG X sh1 rf1 mem1 cells1 slots1 1205 [some (.ref b), some (.ref x), some (.ref m), some (.ref o), some (.int (iI i)), o5, o6] []) : gG X sh rf mem cells slots 448 [some (.ref b), some (.ref x), some (.ref m), some (.ref o), some (.int (iI i)), o5, o6] [] := by
  have hS9 := hS
  obtain ⟨⟨la, l0, l1, l2, sa, ra, hW⟩, hM, hV, hG, so, hI, hmo, hbo⟩ := hS
  have ho := hW.1.1
  obtain ⟨kR, kM, kS, kL, kD, klk, kE1, kE2, kA, kT⟩ := hW.ok
  have kC := hI.okC kL
  have kE := hI.2.1
  have kAr := hI.2.2
  obtain ⟨a1, ea1⟩ : ∃ a, a = (xs ((i : Int) + 1).toNat).toInt := ⟨_, rfl⟩
  have r1 : inR a1 := by rw [ea1]; exact inR_of _
  have t1 : -2147483648 ≤ a1 ∧ a1 < 2147483648 := r1
  obtain ⟨a2, ea2⟩ : ∃ a, a = (xs ((i : Int) + 2).toNat).toInt := ⟨_, rfl⟩
  have r2 : inR a2 := by rw [ea2]; exact inR_of _
  have t2 : -2147483648 ≤ a2 ∧ a2 < 2147483648 := r2
  obtain ⟨a3, ea3⟩ : ∃ a, a = (xs ((i : Int) + 3).toNat).toInt := ⟨_, rfl⟩
  have r3 : inR a3 := by rw [ea3]; exact inR_of _
  have t3 : -2147483648 ≤ a3 ∧ a3 < 2147483648 := r3
  obtain ⟨a4, ea4⟩ : ∃ a, a = (xs ((i : Int) + 4).toNat).toInt := ⟨_, rfl⟩
  have r4 : inR a4 := by rw [ea4]; exact inR_of _
  have t4 : -2147483648 ≤ a4 ∧ a4 < 2147483648 := r4
  refine g_aload_n hC dL_law_448 rfl ?_
  refine g_aload_n hC dL_law_449 rfl ?_
  refine g_iload hC dL_law_450 rfl ?_
  refine g_iconst hC dL_law_452 ?_
  refine g_iadd hC dL_law_453 ?_
  refine g_sld hC hB (by omega) (by omega) hL dL_law_454 ?_
  rw [← ea1]
  refine g_aload_n hC dL_law_455 rfl ?_
  refine g_iload hC dL_law_456 rfl ?_
  refine g_iconst hC dL_law_458 ?_
  refine g_iadd hC dL_law_459 ?_
  refine g_sld hC hB (by omega) (by omega) hL dL_law_460 ?_
  rw [← ea2]
  refine g_VP hC (kX9_differ (gl X) (gD X) (gac X) G x A la l0 l1 l2 sa ra rp ex ar ms ss ch ds lk g y z a1 a2 hW r1 r2) cvX9_differ lkL_47 (by assumption) rfl rfl (Nat.le_of_ble_eq_true rfl) (gfitL hR (by omega) (by omega) (by omega)) dL_law_461 (fun x461 hx461 => ?_)
  have w9 : WN G sh rf mem sh rf mem x A rp ms ss ch ds lk ex ar g y z := ⟨⟨la, l0, l1, l2, sa, ra, hW⟩, fun _ _ => Un.rf0⟩
  subst hx461
  obtain ⟨q1, q2, q3⟩ := hS9.mid w9.2
  refine g_re q1 (fun B1 hM1 hB1 hj1 => ?_)
  have hV1 := q2 B1 hB1
  have mo1 := hM1.1
  refine g_aload_n hC dL_law_464 rfl ?_
  refine g_aload_n hC dL_law_465 rfl ?_
  refine g_iload hC dL_law_466 rfl ?_
  refine g_iconst hC dL_law_468 ?_
  refine g_iadd hC dL_law_469 ?_
  refine g_sld hC hB (by omega) (by omega) hL dL_law_470 ?_
  rw [← ea1]
  refine g_aload_n hC dL_law_471 rfl ?_
  refine g_iload hC dL_law_472 rfl ?_
  refine g_iconst hC dL_law_474 ?_
  refine g_iadd hC dL_law_475 ?_
  refine g_sld hC hB (by omega) (by omega) hL dL_law_476 ?_
  rw [← ea2]
  refine g_VM hC (kX10_differ (gl X) (gD X) (gac X) m B1 rp ex ar ms ss ch ds lk g y z a1 a2 hM1 hV1 kD r1 r2) cvX10_differ lkL_50 (by assumption) rfl rfl (Nat.le_of_ble_eq_true rfl) (gfitL hR (by omega) (by omega) (by omega)) dL_law_477 (fun x477 mem477 hx477 => ?_)
  obtain ⟨hr8, v2, c2⟩ := hx477
  subst hr8
  refine g_ceq (tgt := 1205) hC dL_law_480 (by decide) ?_
  exact hK _ _ _ _ _ B1 _ _ _ _ _ _ _ _ _ _ _ _ _ (hS9.next w9 hM1 hB1 hj1 v2 c2 hI) (by omega) (by omega)
set_option maxHeartbeats 4000000 in
set_option maxRecDepth 100000 in
theorem law_c7 {X : gX} (hC : gC X cL_law RL) (hR : gRm X = room_1) {b L : Nat} {xs : Nat → Int32} (hB : gScr X b L xs) (hL : L ≤ 2560) {G : Nat → Prop} {sh : Nat → Nat × Nat} {rf : Nat → Nat → Option Nat} {mem : Nat → Nat → Int} {x m o : Nat} {A B : Nat → Nat} {rp ex ar : List Int} {ms : List (Option MemT)} {ss : List (Option SetT)} {ch : Lns} {ds : Dfs} {lk : Nat} {g y z : Int} (hS : LSt G sh rf mem x m o A B rp ms ss ch ds lk ex ar g y z) {i cells slots : Nat} (hi : (i : Int) + 5 ≤ L) (hcs : cells ≤ 600000) (hsl : slots ≤ 7200000) {o5 o6 : Option Value} (hK : ∀ (sh1 : Nat → Nat × Nat) (rf1 : Nat → Nat → Option Nat) (mem1 : Nat → Nat → Int) (cells1 slots1 : Nat) (B1 : Nat → Nat) (rp1 ex1 ar1 : List Int) (ms1 : List (Option MemT)) (ss1 : List (Option SetT)) (ch1 : Lns) (ds1 : Dfs) (lk1 : Nat) (g1 y1 z1 : Int) o5 o6, LSt G sh1 rf1 mem1 x m o A B1 rp1 ms1 ss1 ch1 ds1 lk1 ex1 ar1 g1 y1 z1 → cells1 + 4 * ms.length ≤ cells + 4 * ms1.length + 10 → slots1 + 364 * ms.length ≤ slots + 364 * ms1.length + 1000 → gG X sh1 rf1 mem1 cells1 slots1 1205 [some (.ref b), some (.ref x), some (.ref m), some (.ref o), some (.int (iI i)), o5, o6] []) : gG X sh rf mem cells slots 485 [some (.ref b), some (.ref x), some (.ref m), some (.ref o), some (.int (iI i)), o5, o6] [] := by
  have hS9 := hS
  obtain ⟨⟨la, l0, l1, l2, sa, ra, hW⟩, hM, hV, hG, so, hI, hmo, hbo⟩ := hS
  have ho := hW.1.1
  obtain ⟨kR, kM, kS, kL, kD, klk, kE1, kE2, kA, kT⟩ := hW.ok
  have kC := hI.okC kL
  have kE := hI.2.1
  have kAr := hI.2.2
  obtain ⟨a1, ea1⟩ : ∃ a, a = (xs ((i : Int) + 1).toNat).toInt := ⟨_, rfl⟩
  have r1 : inR a1 := by rw [ea1]; exact inR_of _
  have t1 : -2147483648 ≤ a1 ∧ a1 < 2147483648 := r1
  obtain ⟨a2, ea2⟩ : ∃ a, a = (xs ((i : Int) + 2).toNat).toInt := ⟨_, rfl⟩
  have r2 : inR a2 := by rw [ea2]; exact inR_of _
  have t2 : -2147483648 ≤ a2 ∧ a2 < 2147483648 := r2
  obtain ⟨a3, ea3⟩ : ∃ a, a = (xs ((i : Int) + 3).toNat).toInt := ⟨_, rfl⟩
  have r3 : inR a3 := by rw [ea3]; exact inR_of _
  have t3 : -2147483648 ≤ a3 ∧ a3 < 2147483648 := r3
  obtain ⟨a4, ea4⟩ : ∃ a, a = (xs ((i : Int) + 4).toNat).toInt := ⟨_, rfl⟩
  have r4 : inR a4 := by rw [ea4]; exact inR_of _
  have t4 : -2147483648 ≤ a4 ∧ a4 < 2147483648 := r4
  refine g_aload_n hC dL_law_485 rfl ?_
  refine g_aload_n hC dL_law_486 rfl ?_
  refine g_iload hC dL_law_487 rfl ?_
  refine g_iconst hC dL_law_489 ?_
  refine g_iadd hC dL_law_490 ?_
  refine g_sld hC hB (by omega) (by omega) hL dL_law_491 ?_
  rw [← ea1]
  refine g_VA hC (kX9_ahead (gl X) (gD X) (gac X) G x A la l0 l1 l2 sa ra rp ex ar ms ss ch ds lk g y z a1 hW r1) cvX9_ahead lkL_51 (by assumption) rfl rfl (Nat.le_of_ble_eq_true rfl) (gfitL hR (by omega) (by omega) (by omega)) dL_law_492 (fun x492 sh492 rf492 mem492 hx492 => ?_)
  obtain ⟨l9, P1, w9⟩ : ∃ l9, aheP lk a1 x492 l9 ∧ WN G sh rf mem sh492 rf492 mem492 x A rp ms ss ch ds l9 ex ar g y z := by
    rcases hx492 with ⟨h1, h2, h3⟩ | ⟨h1, h2, h3⟩
    · exact ⟨lk, Or.inl ⟨h1, h2, rfl⟩, h3⟩
    · exact ⟨a1.toNat, Or.inr ⟨h1, h2, rfl⟩, h3⟩
  obtain ⟨q1, q2, q3⟩ := hS9.mid w9.2
  refine g_re q1 (fun B1 hM1 hB1 hj1 => ?_)
  have hV1 := q2 B1 hB1
  have mo1 := hM1.1
  refine g_aload_n hC dL_law_495 rfl ?_
  refine g_aload_n hC dL_law_496 rfl ?_
  refine g_iload hC dL_law_497 rfl ?_
  refine g_iconst hC dL_law_499 ?_
  refine g_iadd hC dL_law_500 ?_
  refine g_sld hC hB (by omega) (by omega) hL dL_law_501 ?_
  rw [← ea1]
  refine g_VM hC (kX10_ahead (gl X) (gD X) (gac X) m B1 rp ex ar ms ss ch ds lk g y z a1 hM1 hV1 r1) cvX10_ahead lkL_55 (by assumption) rfl rfl (Nat.le_of_ble_eq_true rfl) (gfitL hR (by omega) (by omega) (by omega)) dL_law_502 (fun x502 mem502 hx502 => ?_)
  obtain ⟨l8, P2, v2, c2⟩ : ∃ l8, aheP lk a1 x502 l8 ∧ MV m B1 mem502 rp ms ss ch ds l8 ex ar g y z ∧ chA m B1 mem492 mem502 := by
    rcases hx502 with ⟨h1, h2, h3⟩ | ⟨h1, h2, h3⟩
    · exact ⟨lk, Or.inl ⟨h1, h2, rfl⟩, h3⟩
    · exact ⟨a1.toNat, Or.inr ⟨h1, h2, rfl⟩, h3⟩
  obtain ⟨rfl, rfl⟩ := aheP_one P1 P2
  refine g_ceq (tgt := 1205) hC dL_law_505 (by decide) ?_
  exact hK _ _ _ _ _ B1 _ _ _ _ _ _ _ _ _ _ _ _ _ (hS9.next w9 hM1 hB1 hj1 v2 c2 hI) (by omega) (by omega)
