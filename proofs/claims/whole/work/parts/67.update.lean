section MV7
variable {mem mem1 : Nat → Nat → Int} {B : Nat → Nat}
theorem puL_0 {A : Nat} {s : List Int} (hBe : ∀ i j, (B i = B j) = (i = j)) : puL B mem (gup mem (B 10) A s.length) A 0 s := ⟨gup_s _ _ _ _, fun i hi => absurd hi (Nat.not_lt_zero i), fun a ha => ⟨gup_k _ _ _ _ ha, fun i _ => by simp [gup, hBe]⟩⟩
theorem puL_step {A e : Nat} {s : List Int} (hBe : ∀ i j, (B i = B j) = (i = j)) (he : e < 10) (h : puL B mem mem1 A e s) : puL B mem (gup mem1 (B 11) (10 * A + e) (s.getD e 0)) A (e + 1) s := by
  obtain ⟨h1, h2, h3⟩ := h
  refine ⟨by simp [gup, hBe]; exact h1, fun i hi => ?_, fun a ha => ⟨?_, fun i hi => ?_⟩⟩
  · by_cases q : i = e
    · rw [q, gup_s]
    · rw [gup_k _ _ _ _ (by omega)]; exact h2 i (by omega)
  · simp [gup, hBe]; exact (h3 a ha).1
  · rw [gup_k _ _ _ _ (by omega)]; exact (h3 a ha).2 i hi
theorem frB.rf0 {k : Nat} : frB B mem mem k := ⟨fun _ _ => rfl, fun _ _ => ⟨rfl, rfl, fun _ _ => rfl⟩⟩
end MV7
set_option maxHeartbeats 4000000 in
set_option maxRecDepth 100000 in
theorem kX10_update (lc : Launch) (D : va_G) (ac : Nat → ClassId) {sh : Nat → Nat × Nat} {rf : Nat → Nat → Option Nat} {mem : Nat → Nat → Int} (m : Nat) (B : Nat → Nat) (rp ex ar : List Int) (ms : List (Option MemT)) (ss : List (Option SetT)) (ch : Lns) (ds : Dfs) (lk : Nat) (g y z : Int) (q : Int) (hM : MO sh rf m B) (hV : MV m B mem rp ms ss ch ds lk ex ar g y z) (kM : okM ms) (kC : okC ch) (kL : okL ch) (h_q : inR q) : gMet lc D ac mX10_update 3 [.ref m, .int (iI q)] 0 0 sh rf mem (pM sh rf (fun r mem1 => r = updR ms ch q ∧ MV m B mem1 rp (updS ms ch q) ss (updC ms ch q) ds lk ex ar g y z ∧ chA m B mem mem1)) := by
  refine gMet.mk (by decide) (by intro v hv; simp at hv; (try rcases hv with rfl | rfl) <;> rfl) (Nat.le_of_ble_eq_true rfl) (fun X hC hI => ?_)
  show gG X sh rf mem 0 0 0 [some (.ref m), some (.int (iI q)), none, none, none, none] []
  have hM9 := hM
  obtain ⟨mo, R4, S4, R5, S5, R6, S6, R7, S7, R8, S8, R9, S9, R10, S10, R11, S11, R12, S12, R13, S13, R14, S14, R15, S15, R16, S16, R17, S17, R19, S19, R20, S20, R21, S21, R22, S22, R25, S25, R26, S26, R27, S27, R30, S30, R31, S31, hBe, hBm, hmB⟩ := hM
  have i_q := h_q
  obtain ⟨q1, q2⟩ := h_q
  obtain ⟨mem0, e0⟩ : ∃ q, q = gup mem m 0 0 := ⟨_, rfl⟩
  obtain ⟨hV0, hc0⟩ := MV.code (v := 0) hmB hV
  rw [← e0] at hV0 hc0
  have hV9 := hV0
  obtain ⟨hvL, hvM, hvS, hvC, hvD, hvO, hvI, hvT⟩ := hV0
  have kc := kC.1
  have J113 : ∀ (K p k : Nat) (ys : Lns) (m0 : Nat → Nat → Int) (aa bad : Int), 1 ≤ K ∧ K ≤ 80 → p < ys.length → ys.length ≤ 30 → k < ch.length → aa = 30 * (K : Int) + p → vC m B m0 ch → (∀ (m1 : Nat → Nat → Int) o5, puL B m0 m1 (30 * K + p) (sg ch k).length (sg ch k) → chF m B m0 m1 [10, 11] → gG X sh rf m1 0 0 24 [some (.ref m), some (.int (iI K)), some (.int (iI bad)), some (.int (iI ((k : Int) + 1))), some (.int (iI aa)), o5] []) → ∀ (t e : Nat) (m1 : Nat → Nat → Int), e ≤ (sg ch k).length → (sg ch k).length < e + t → puL B m0 m1 (30 * K + p) e (sg ch k) → chF m B m0 m1 [10, 11] → gG X sh rf m1 0 0 113 [some (.ref m), some (.int (iI K)), some (.int (iI bad)), some (.int (iI k)), some (.int (iI aa)), some (.int (iI e))] [] := by
    intro K p k ys m0 aa bad hK hp hys hk eaa vc0 K9 t
    have s10 := (kL.2 k).1
    induction t with
    | zero => intro e m1 c1 c2; omega
    | succ t ih =>
      intro e m1 c1 c2 c3 c4
      have vc2 : vC m B m1 ch := ⟨by rw [(c4.1 18 (by decide)).1]; exact vc0.1, by rw [(c4.1 19 (by decide)).2, (c4.1 20 (by decide)).2, (c4.1 21 (by decide)).2, (c4.1 22 (by decide)).2]; exact vc0.2⟩
      have sk : m1 (B 20) (k : Int).toNat = (sg ch k).length := (vc2.2 k hk).2.1
      refine g_iload hC dX10_update_113 rfl ?_
      refine g_aload_n hC dX10_update_115 rfl ?_
      refine g_getR hC fdX10_56 (by assumption) (by assumption) dX10_update_116 ?_
      refine g_iload_n hC dX10_update_119 rfl ?_
      refine g_iald hC (by assumption) (by omega) (by omega) (by decide) dX10_update_120 ?_
      refine g_icmp_ge (tgt := 155) hC dX10_update_121 (by decide) ⟨by omega, by omega⟩ ⟨by omega, by omega⟩ (fun h121 => ?_) (fun h121 => ?_)
      · refine g_iinc hC dX10_update_155 rfl ?_
        dsimp only [List.set]
        refine g_goto (tgt := 24) hC dX10_update_158 (by decide) ?_
        first
        | (obtain rfl : e = (sg ch k).length := by omega
           exact K9 m1 _ c3 c4)
        | (refine ih (k + 1) mem62 (xs.eraseIdx (plc xs (nu ch k))) (nu ch k) _ _ (by omega) (by omega) hx62.1 (okL_del okx plt) (c5.trans hx62.2.1) ((c6.trans hx62.2.2).mono (by decide)) (fun w => absurd b0 w) (fun _ => ⟨by omega, by rw [g1, upS_d hk dl th], ?_, fun n hn => ?_⟩)
           · rw [List.length_eraseIdx_of_lt plt, show ((xs.length - 1 : Nat) : Int) = (xs.length : Int) + -1 by omega]; exact g2
           · rw [th_del hn plt th]; exact g3 n (by omega))
        | exact J24 K x _ ex0 ⟨by omega, by omega⟩ K3 hx18 (by omega) rfl (ch.length + 1) 0 mem0 x.2.2 0 _ _ (Nat.zero_le _) (by omega) hLK okK frB.rf0 chF.rf0 (fun _ => rfl) (fun w => ⟨by omega, by rw [List.drop_zero], by rw [List.drop_zero]; exact hx18.symm.trans w, fun n _ => Iff.rfl⟩)
      · refine g_aload_n hC dX10_update_124 rfl ?_
        refine g_getR hC fdX10_32 (by assumption) (by assumption) dX10_update_125 ?_
        refine g_bipush hC dX10_update_128 (by decide +kernel) ?_
        refine g_iload hC dX10_update_130 rfl ?_
        refine g_imul hC dX10_update_132 ?_
        refine g_iload hC dX10_update_133 rfl ?_
        refine g_iadd hC dX10_update_135 ?_
        refine g_aload_n hC dX10_update_136 rfl ?_
        refine g_getR hC fdX10_59 (by assumption) (by assumption) dX10_update_137 ?_
        refine g_bipush hC dX10_update_140 (by decide +kernel) ?_
        refine g_iload_n hC dX10_update_142 rfl ?_
        refine g_imul hC dX10_update_143 ?_
        refine g_iload hC dX10_update_144 rfl ?_
        refine g_iadd hC dX10_update_146 ?_
        refine g_iald hC (by assumption) (by omega) (by omega) (by decide) dX10_update_147 ?_
        have w9 : (10 * (k : Int) + (e : Int)).toNat = 10 * k + e := by omega
        have w8 : m1 (B 21) (10 * (k : Int) + (e : Int)).toNat = (sg ch k).getD e 0 := by rw [w9]; exact (vc2.2 k hk).2.2.2 e (by omega)
        rw [w8]
        refine g_iast hC (by assumption) (by omega) (by omega) (by decide) dX10_update_148 ?_
        refine g_iinc hC dX10_update_149 rfl ?_
        dsimp only [List.set]
        refine g_goto (tgt := 113) hC dX10_update_152 (by decide) ?_
        first
        | (have e9 : (10 * aa + (e : Int)).toNat = 10 * (30 * K + p) + e := by omega
           rw [e9]
           exact ih (e + 1) _ (by omega) (by omega) (puL_step hBe (by omega) c3) ((c4.trans (chF.row hBe hmB)).mono (by decide)))
        | (have e1 : (xs.set (plc xs (nu ch k)) (nu ch k, (sg ch k))).length = xs.length := List.length_set
           have e2 : ∀ j, nu (xs.set (plc xs (nu ch k)) (nu ch k, (sg ch k))) j = nu xs j := fun j => by
             rw [nu_set _ plt]
             by_cases c : j = (plc xs (nu ch k))
             · rw [if_pos c, c]; exact th.symm
             · rw [if_neg c]
           have e3 : ∀ j, sg (xs.set (plc xs (nu ch k)) (nu ch k, (sg ch k))) j = if j = (plc xs (nu ch k)) then (sg ch k) else sg xs j := fun j => sg_set _ plt j
           refine J113 K (plc xs (nu ch k)) k xs m1 _ bad hK plt okx.1 hk rfl vc1 (fun m3 o5 q1 q2 => ?_) ((sg ch k).length + 1) 0 mem5 (Nat.zero_le _) (by omega) ?_ ?_
           · obtain ⟨v1, v2⟩ := puL_view lm okx plt q1 q2 e1 e2 e3
             refine ih (k + 1) m3 (xs.set (plc xs (nu ch k)) (nu ch k, (sg ch k))) (nu ch k) _ _ (by omega) (by omega) v1 (okL_put okx e1 e2 e3 ⟨(kL.2 k).1, (kL.2 k).2.2.2⟩) (c5.trans v2) ((c6.trans q2).mono (by decide)) (fun w => absurd b0 w) (fun _ => ⟨by omega, by rw [g1, upS_s hk dl, lnPut_t th], ?_, fun n hn => ?_⟩)
             · rw [e1]; exact g2
             · rw [th_set plt th]; exact g3 n (by omega)
           · rw [e5, eA]; exact puL_0 hBe
           · rw [e5]; exact (chF.row hBe hmB).mono (by decide))
        | (have hle := plc_le (nu ch k) xs
           have e1 : (xs.insertIdx (plc xs (nu ch k)) (nu ch k, (sg ch k))).length = (xs.insertIdx (plc xs (nu ch k)) (nu ch k, [])).length := by rw [List.length_insertIdx_of_le_length hle, List.length_insertIdx_of_le_length hle]
           have e0' : (xs.insertIdx (plc xs (nu ch k)) (nu ch k, [])).length = xs.length + 1 := List.length_insertIdx_of_le_length hle _
           have e2 : ∀ j, nu (xs.insertIdx (plc xs (nu ch k)) (nu ch k, (sg ch k))) j = nu (xs.insertIdx (plc xs (nu ch k)) (nu ch k, [])) j := fun j => by rw [nu_ins _ hle, nu_ins _ hle]
           have e3 : ∀ j, sg (xs.insertIdx (plc xs (nu ch k)) (nu ch k, (sg ch k))) j = if j = (plc xs (nu ch k)) then (sg ch k) else sg (xs.insertIdx (plc xs (nu ch k)) (nu ch k, [])) j := fun j => by
             rw [sg_ins _ hle, sg_ins _ hle]
             by_cases c : j = (plc xs (nu ch k))
             · rw [if_pos c, if_neg (by omega), if_pos c]
             · rw [if_neg c, if_neg c, if_neg c]
           have oki := okL_ins (n := nu ch k) okx (by omega) hle ⟨by omega, by omega⟩
           refine J113 K (plc xs (nu ch k)) k (xs.insertIdx (plc xs (nu ch k)) (nu ch k, [])) mem94 _ bad hK (by omega) oki.1 hk rfl vcn (fun m3 o5 q1 q2 => ?_) ((sg ch k).length + 1) 0 mem5 (Nat.zero_le _) (by omega) ?_ ?_
           · obtain ⟨v1, v2⟩ := puL_view hx94.1 oki (by omega) q1 q2 e1 e2 e3
             refine ih (k + 1) m3 (xs.insertIdx (plc xs (nu ch k)) (nu ch k, (sg ch k))) (nu ch k) _ _ (by omega) (by omega) v1 (okL_put oki e1 e2 e3 ⟨(kL.2 k).1, (kL.2 k).2.2.2⟩) (c5.trans (hx94.2.1.trans v2)) ((cc.trans q2).mono (by decide)) (fun w => absurd b0 w) (fun _ => ⟨by omega, by rw [g1, upS_s hk dl, lnPut_n th (by omega)], ?_, fun n hn => ?_⟩)
             · rw [e1, e0']; exact g2
             · rw [th_ins hn]; exact g3 n (by omega)
           · rw [e5, eA]; exact puL_0 hBe
           · rw [e5]; exact (chF.row hBe hmB).mono (by decide))
  have J24 : ∀ (K : Nat) (x : MemT) (bad : Int), memAt ms q = some x → 1 ≤ K ∧ K ≤ 80 → ms.getD (K - 1) none = some x → bad = rfS x.2.2 ch 0 x.2.2.length 0 → 0 ≤ bad ∧ bad ≤ 20 → q = K → ∀ (t k : Nat) (m1 : Nat → Nat → Int) (xs : Lns) (bf : Int) o4 o5, k ≤ ch.length → ch.length < k + t → lnM B m1 K xs → okL xs → frB B mem0 m1 K → chF m B mem0 m1 [7, 9, 10, 11] → (bad ≠ 0 → xs = x.2.2) → (bad = 0 → 0 ≤ bf ∧ upS x.2.2 ch = upS xs (ch.drop k) ∧ rfS x.2.2 (ch.drop k) k xs.length bf = 0 ∧ ∀ n, bf < n → (nu x.2.2 (plc x.2.2 n) = n ↔ nu xs (plc xs n) = n)) → gG X sh rf m1 0 0 24 [some (.ref m), some (.int (iI K)), some (.int (iI bad)), some (.int (iI k)), o4, o5] [] := by
    intro K x bad ex0 hK K3 ebad hbad en t
    induction t with
    | zero => intro k m1 xs bf o4 o5 c1 c2; omega
    | succ t ih =>
      intro k m1 xs bf o4 o5 c1 c2 lm okx c5 c6 c7 c8
      have vc1 : vC m B m1 ch := hvC.st c6 (by decide)
      have l18 : m1 m 18 = ch.length := vc1.1
      have l7 : m1 (B 7) (K : Int).toNat = xs.length := lm.1
      have kx := okx.1
      refine g_iload_n hC dX10_update_24 rfl ?_
      refine g_aload_n hC dX10_update_25 rfl ?_
      refine g_getI hC fdX10_178 (by assumption) dX10_update_26 ?_
      refine g_icmp_ge (tgt := 161) hC dX10_update_29 (by decide) ⟨by omega, by omega⟩ ⟨by omega, by omega⟩ (fun h29 => ?_) (fun h29 => ?_)
      · refine g_aload_n hC dX10_update_161 rfl ?_
        refine g_iconst hC dX10_update_162 ?_
        refine g_putI hC fdX10_178 (by assumption) rfl rfl dX10_update_163 ?_
        obtain ⟨mem7, e7⟩ : ∃ q, q = gup m1 m 18 0 := ⟨_, rfl⟩
        rw [← e7]
        have d7 : chF m B m1 mem7 [18] := by rw [e7]; exact chF.fld hmB
        have vc7 : vC m B mem7 [] := ⟨by rw [e7, gup_s]; rfl, fun j hj => absurd hj (Nat.not_lt_zero j)⟩
        have l77 : mem7 (B 7) (K : Int).toNat = xs.length := by rw [(d7.1 7 (by decide)).2]; exact l7
        refine g_iload_n hC dX10_update_166 rfl ?_
        refine g_if_le (tgt := 176) hC dX10_update_167 (by decide) ⟨by omega, by omega⟩ (fun h167 => ?_) (fun h167 => ?_)
        · refine g_aload_n hC dX10_update_176 rfl ?_
          refine g_getR hC fdX10_20 (by assumption) (by assumption) dX10_update_177 ?_
          refine g_iload_n hC dX10_update_180 rfl ?_
          refine g_iald hC (by assumption) (by omega) (by omega) (by decide) dX10_update_181 ?_
          refine g_iret hC hI rfl dX10_update_182 (Nat.le_of_ble_eq_true rfl) (Nat.le_of_ble_eq_true rfl) ⟨rfl, rfl, _, rfl, ?_⟩
          subst en
          have K9 : K - 1 + 1 = K := by omega
          have key := vM_lines (k := K - 1) hvM kM K3 (by rw [K9]; exact lm) (by rw [K9]; exact c5) c6
          have u3 : updC ms ch (K : Int) = [] := by rw [updC, ex0]
          have a4 := c6.trans d7
          by_cases b0 : bad = 0
          · obtain ⟨g0, g1, g2, g3⟩ := c8 b0
            have w9 : upS x.2.2 ch = xs := by rw [g1, List.drop_eq_nil_of_le (by omega)]; rfl
            have u1 : updR ms ch (K : Int) = xs.length := by
              rw [updR, ex0]
              show (if rfS x.2.2 ch 0 x.2.2.length 0 = 0 then ((upS x.2.2 ch).length : Int) else -rfS x.2.2 ch 0 x.2.2.length 0) = _
              rw [if_pos (by omega), w9]
            have u2 : updS ms ch (K : Int) = ms.set (K - 1) (some (x.1, x.2.1, xs)) := by
              rw [updS, ex0]
              show (if rfS x.2.2 ch 0 x.2.2.length 0 = 0 then ms.set ((K : Int) - 1).toNat (some (x.1, x.2.1, upS x.2.2 ch)) else ms) = _
              rw [if_pos (by omega), w9, show ((K : Int) - 1).toNat = K - 1 by omega]
            rw [u1, u2, u3]
            first
            | (exfalso; omega)
            | exact ⟨l77, ⟨hvL.st a4 (by decide), key.st d7 (by decide), hvS.st a4 (by decide), vc7, hvD.st a4 (by decide), hvO.st a4 (by decide), hvI.st a4 (by decide), hvT.st a4 (by decide)⟩, chA.trans hc0.2 a4.2⟩
          · have w9 := c7 b0
            have u1 : updR ms ch (K : Int) = -bad := by
              rw [updR, ex0]
              show (if rfS x.2.2 ch 0 x.2.2.length 0 = 0 then ((upS x.2.2 ch).length : Int) else -rfS x.2.2 ch 0 x.2.2.length 0) = _
              rw [if_neg (by omega), ebad]
            have u2 : updS ms ch (K : Int) = ms := by
              rw [updS, ex0]
              show (if rfS x.2.2 ch 0 x.2.2.length 0 = 0 then ms.set ((K : Int) - 1).toNat (some (x.1, x.2.1, upS x.2.2 ch)) else ms) = _
              rw [if_neg (by omega)]
            rw [w9, set_selfM K3] at key
            rw [u1, u2, u3]
            first
            | (exfalso; omega)
            | exact ⟨by omega, ⟨hvL.st a4 (by decide), key.st d7 (by decide), hvS.st a4 (by decide), vc7, hvD.st a4 (by decide), hvO.st a4 (by decide), hvI.st a4 (by decide), hvT.st a4 (by decide)⟩, chA.trans hc0.2 a4.2⟩
        · refine g_iconst hC dX10_update_170 ?_
          refine g_iload_n hC dX10_update_171 rfl ?_
          refine g_isub hC dX10_update_172 ?_
          refine g_goto (tgt := 182) hC dX10_update_173 (by decide) ?_
          refine g_iret hC hI rfl dX10_update_182 (Nat.le_of_ble_eq_true rfl) (Nat.le_of_ble_eq_true rfl) ⟨rfl, rfl, _, rfl, ?_⟩
          subst en
          have K9 : K - 1 + 1 = K := by omega
          have key := vM_lines (k := K - 1) hvM kM K3 (by rw [K9]; exact lm) (by rw [K9]; exact c5) c6
          have u3 : updC ms ch (K : Int) = [] := by rw [updC, ex0]
          have a4 := c6.trans d7
          by_cases b0 : bad = 0
          · obtain ⟨g0, g1, g2, g3⟩ := c8 b0
            have w9 : upS x.2.2 ch = xs := by rw [g1, List.drop_eq_nil_of_le (by omega)]; rfl
            have u1 : updR ms ch (K : Int) = xs.length := by
              rw [updR, ex0]
              show (if rfS x.2.2 ch 0 x.2.2.length 0 = 0 then ((upS x.2.2 ch).length : Int) else -rfS x.2.2 ch 0 x.2.2.length 0) = _
              rw [if_pos (by omega), w9]
            have u2 : updS ms ch (K : Int) = ms.set (K - 1) (some (x.1, x.2.1, xs)) := by
              rw [updS, ex0]
              show (if rfS x.2.2 ch 0 x.2.2.length 0 = 0 then ms.set ((K : Int) - 1).toNat (some (x.1, x.2.1, upS x.2.2 ch)) else ms) = _
              rw [if_pos (by omega), w9, show ((K : Int) - 1).toNat = K - 1 by omega]
            rw [u1, u2, u3]
            first
            | (exfalso; omega)
            | exact ⟨l77, ⟨hvL.st a4 (by decide), key.st d7 (by decide), hvS.st a4 (by decide), vc7, hvD.st a4 (by decide), hvO.st a4 (by decide), hvI.st a4 (by decide), hvT.st a4 (by decide)⟩, chA.trans hc0.2 a4.2⟩
          · have w9 := c7 b0
            have u1 : updR ms ch (K : Int) = -bad := by
              rw [updR, ex0]
              show (if rfS x.2.2 ch 0 x.2.2.length 0 = 0 then ((upS x.2.2 ch).length : Int) else -rfS x.2.2 ch 0 x.2.2.length 0) = _
              rw [if_neg (by omega), ebad]
            have u2 : updS ms ch (K : Int) = ms := by
              rw [updS, ex0]
              show (if rfS x.2.2 ch 0 x.2.2.length 0 = 0 then ms.set ((K : Int) - 1).toNat (some (x.1, x.2.1, upS x.2.2 ch)) else ms) = _
              rw [if_neg (by omega)]
            rw [w9, set_selfM K3] at key
            rw [u1, u2, u3]
            first
            | (exfalso; omega)
            | exact ⟨by omega, ⟨hvL.st a4 (by decide), key.st d7 (by decide), hvS.st a4 (by decide), vc7, hvD.st a4 (by decide), hvO.st a4 (by decide), hvI.st a4 (by decide), hvT.st a4 (by decide)⟩, chA.trans hc0.2 a4.2⟩
      · refine g_iload_n hC dX10_update_32 rfl ?_
        refine g_if_ne (tgt := 161) hC dX10_update_33 (by decide) ⟨by omega, by omega⟩ (fun h33 => ?_) (fun h33 => ?_)
        · refine g_aload_n hC dX10_update_161 rfl ?_
          refine g_iconst hC dX10_update_162 ?_
          refine g_putI hC fdX10_178 (by assumption) rfl rfl dX10_update_163 ?_
          obtain ⟨mem7, e7⟩ : ∃ q, q = gup m1 m 18 0 := ⟨_, rfl⟩
          rw [← e7]
          have d7 : chF m B m1 mem7 [18] := by rw [e7]; exact chF.fld hmB
          have vc7 : vC m B mem7 [] := ⟨by rw [e7, gup_s]; rfl, fun j hj => absurd hj (Nat.not_lt_zero j)⟩
          have l77 : mem7 (B 7) (K : Int).toNat = xs.length := by rw [(d7.1 7 (by decide)).2]; exact l7
          refine g_iload_n hC dX10_update_166 rfl ?_
          refine g_if_le (tgt := 176) hC dX10_update_167 (by decide) ⟨by omega, by omega⟩ (fun h167 => ?_) (fun h167 => ?_)
          · refine g_aload_n hC dX10_update_176 rfl ?_
            refine g_getR hC fdX10_20 (by assumption) (by assumption) dX10_update_177 ?_
            refine g_iload_n hC dX10_update_180 rfl ?_
            refine g_iald hC (by assumption) (by omega) (by omega) (by decide) dX10_update_181 ?_
            refine g_iret hC hI rfl dX10_update_182 (Nat.le_of_ble_eq_true rfl) (Nat.le_of_ble_eq_true rfl) ⟨rfl, rfl, _, rfl, ?_⟩
            subst en
            have K9 : K - 1 + 1 = K := by omega
            have key := vM_lines (k := K - 1) hvM kM K3 (by rw [K9]; exact lm) (by rw [K9]; exact c5) c6
            have u3 : updC ms ch (K : Int) = [] := by rw [updC, ex0]
            have a4 := c6.trans d7
            by_cases b0 : bad = 0
            · obtain ⟨g0, g1, g2, g3⟩ := c8 b0
              have w9 : upS x.2.2 ch = xs := by rw [g1, List.drop_eq_nil_of_le (by omega)]; rfl
              have u1 : updR ms ch (K : Int) = xs.length := by
                rw [updR, ex0]
                show (if rfS x.2.2 ch 0 x.2.2.length 0 = 0 then ((upS x.2.2 ch).length : Int) else -rfS x.2.2 ch 0 x.2.2.length 0) = _
                rw [if_pos (by omega), w9]
              have u2 : updS ms ch (K : Int) = ms.set (K - 1) (some (x.1, x.2.1, xs)) := by
                rw [updS, ex0]
                show (if rfS x.2.2 ch 0 x.2.2.length 0 = 0 then ms.set ((K : Int) - 1).toNat (some (x.1, x.2.1, upS x.2.2 ch)) else ms) = _
                rw [if_pos (by omega), w9, show ((K : Int) - 1).toNat = K - 1 by omega]
              rw [u1, u2, u3]
              first
              | (exfalso; omega)
              | exact ⟨l77, ⟨hvL.st a4 (by decide), key.st d7 (by decide), hvS.st a4 (by decide), vc7, hvD.st a4 (by decide), hvO.st a4 (by decide), hvI.st a4 (by decide), hvT.st a4 (by decide)⟩, chA.trans hc0.2 a4.2⟩
            · have w9 := c7 b0
              have u1 : updR ms ch (K : Int) = -bad := by
                rw [updR, ex0]
                show (if rfS x.2.2 ch 0 x.2.2.length 0 = 0 then ((upS x.2.2 ch).length : Int) else -rfS x.2.2 ch 0 x.2.2.length 0) = _
                rw [if_neg (by omega), ebad]
              have u2 : updS ms ch (K : Int) = ms := by
                rw [updS, ex0]
                show (if rfS x.2.2 ch 0 x.2.2.length 0 = 0 then ms.set ((K : Int) - 1).toNat (some (x.1, x.2.1, upS x.2.2 ch)) else ms) = _
                rw [if_neg (by omega)]
              rw [w9, set_selfM K3] at key
              rw [u1, u2, u3]
              first
              | (exfalso; omega)
              | exact ⟨by omega, ⟨hvL.st a4 (by decide), key.st d7 (by decide), hvS.st a4 (by decide), vc7, hvD.st a4 (by decide), hvO.st a4 (by decide), hvI.st a4 (by decide), hvT.st a4 (by decide)⟩, chA.trans hc0.2 a4.2⟩
          · refine g_iconst hC dX10_update_170 ?_
            refine g_iload_n hC dX10_update_171 rfl ?_
            refine g_isub hC dX10_update_172 ?_
            refine g_goto (tgt := 182) hC dX10_update_173 (by decide) ?_
            refine g_iret hC hI rfl dX10_update_182 (Nat.le_of_ble_eq_true rfl) (Nat.le_of_ble_eq_true rfl) ⟨rfl, rfl, _, rfl, ?_⟩
            subst en
            have K9 : K - 1 + 1 = K := by omega
            have key := vM_lines (k := K - 1) hvM kM K3 (by rw [K9]; exact lm) (by rw [K9]; exact c5) c6
            have u3 : updC ms ch (K : Int) = [] := by rw [updC, ex0]
            have a4 := c6.trans d7
            by_cases b0 : bad = 0
            · obtain ⟨g0, g1, g2, g3⟩ := c8 b0
              have w9 : upS x.2.2 ch = xs := by rw [g1, List.drop_eq_nil_of_le (by omega)]; rfl
              have u1 : updR ms ch (K : Int) = xs.length := by
                rw [updR, ex0]
                show (if rfS x.2.2 ch 0 x.2.2.length 0 = 0 then ((upS x.2.2 ch).length : Int) else -rfS x.2.2 ch 0 x.2.2.length 0) = _
                rw [if_pos (by omega), w9]
              have u2 : updS ms ch (K : Int) = ms.set (K - 1) (some (x.1, x.2.1, xs)) := by
                rw [updS, ex0]
                show (if rfS x.2.2 ch 0 x.2.2.length 0 = 0 then ms.set ((K : Int) - 1).toNat (some (x.1, x.2.1, upS x.2.2 ch)) else ms) = _
                rw [if_pos (by omega), w9, show ((K : Int) - 1).toNat = K - 1 by omega]
              rw [u1, u2, u3]
              first
              | (exfalso; omega)
              | exact ⟨l77, ⟨hvL.st a4 (by decide), key.st d7 (by decide), hvS.st a4 (by decide), vc7, hvD.st a4 (by decide), hvO.st a4 (by decide), hvI.st a4 (by decide), hvT.st a4 (by decide)⟩, chA.trans hc0.2 a4.2⟩
            · have w9 := c7 b0
              have u1 : updR ms ch (K : Int) = -bad := by
                rw [updR, ex0]
                show (if rfS x.2.2 ch 0 x.2.2.length 0 = 0 then ((upS x.2.2 ch).length : Int) else -rfS x.2.2 ch 0 x.2.2.length 0) = _
                rw [if_neg (by omega), ebad]
              have u2 : updS ms ch (K : Int) = ms := by
                rw [updS, ex0]
                show (if rfS x.2.2 ch 0 x.2.2.length 0 = 0 then ms.set ((K : Int) - 1).toNat (some (x.1, x.2.1, upS x.2.2 ch)) else ms) = _
                rw [if_neg (by omega)]
              rw [w9, set_selfM K3] at key
              rw [u1, u2, u3]
              first
              | (exfalso; omega)
              | exact ⟨by omega, ⟨hvL.st a4 (by decide), key.st d7 (by decide), hvS.st a4 (by decide), vc7, hvD.st a4 (by decide), hvO.st a4 (by decide), hvI.st a4 (by decide), hvT.st a4 (by decide)⟩, chA.trans hc0.2 a4.2⟩
        · have b0 : bad = 0 := by omega
          obtain ⟨g0, g1, g2, g3⟩ := c8 b0
          have hk : k < ch.length := by omega
          obtain ⟨k1, k2, k3, k4⟩ := vc1.2 k hk
          have nk : m1 (B 19) (k : Int).toNat = nu ch k := k1
          have nb := (kC.2 k).2 hk
          have eA : (30 * (K : Int) + (plc xs (nu ch k) : Int)).toNat = 30 * K + plc xs (nu ch k) := by omega
          have pl9 := plc_le (nu ch k) xs
          refine g_aload_n hC dX10_update_36 rfl ?_
          refine g_iload_n hC dX10_update_37 rfl ?_
          refine g_aload_n hC dX10_update_38 rfl ?_
          refine g_getR hC fdX10_53 (by assumption) (by assumption) dX10_update_39 ?_
          refine g_iload_n hC dX10_update_42 rfl ?_
          refine g_iald hC (by assumption) (by omega) (by omega) (by decide) dX10_update_43 ?_
          rw [nk]
          refine g_VP hC (kX10_placeOf (gl X) (gD X) (gac X) m B K xs (nu ch k) hM9 lm okx hK ⟨by omega, by omega⟩) cvX10_placeOf lkX10_123 (by assumption) rfl rfl (Nat.le_of_ble_eq_true rfl) (hI.fit (Nat.le_of_ble_eq_true rfl) (Nat.le_of_ble_eq_true rfl) (Nat.le_of_ble_eq_true rfl)) dX10_update_44 (fun x44 hx44 => ?_)
          subst hx44
          have hdl : (m1 (B 22) (k : Int).toNat = 1 ∧ sg ch k = []) ∨ (m1 (B 22) (k : Int).toNat = 0 ∧ ¬ sg ch k = []) := by
            rw [Int.toNat_natCast, k3]
            by_cases q : sg ch k = []
            · rw [if_pos q]; exact Or.inl ⟨rfl, q⟩
            · rw [if_neg q]; exact Or.inr ⟨rfl, q⟩
          clear k3
          rcases hdl with ⟨d1, dl⟩ | ⟨d1, dl⟩
          · have th0 : nu x.2.2 (plc x.2.2 (nu ch k)) = nu ch k := by
              apply Classical.byContradiction
              intro w
              rw [rfS_dn hk dl w] at g2
              omega
            rw [rfS_d hk dl th0] at g2
            have hnb : ¬ (nu ch k ≤ bf ∨ 30 < (xs.length : Int) + -1) := fun w => by rw [if_pos w] at g2; omega
            rw [if_neg hnb] at g2
            have th := (g3 (nu ch k) (by omega)).mp th0
            have plt : plc xs (nu ch k) < xs.length := by
              apply Classical.byContradiction
              intro w
              rw [nu_out (by omega)] at th
              omega
            refine g_istore hC dX10_update_47 (Nat.le_of_ble_eq_true rfl) ?_
            dsimp only [List.set]
            refine g_aload_n hC dX10_update_49 rfl ?_
            refine g_getR hC fdX10_62 (by assumption) (by assumption) dX10_update_50 ?_
            refine g_iload_n hC dX10_update_53 rfl ?_
            refine g_zald hC (by assumption) (by omega) (by omega) (by decide) dX10_update_54 ?_
            refine g_if_eq (tgt := 68) hC dX10_update_55 (by decide) ⟨by omega, by omega⟩ (fun h55 => ?_) (fun h55 => ?_)
            · exfalso; omega
            · refine g_aload_n hC dX10_update_58 rfl ?_
              refine g_iload_n hC dX10_update_59 rfl ?_
              refine g_iload hC dX10_update_60 rfl ?_
              refine g_VV hC (kX10_shut (gl X) (gD X) (gac X) m B K xs (plc xs (nu ch k)) hM9 lm okx hK plt) cvX10_shut lkX10_184 (by assumption) rfl rfl (Nat.le_of_ble_eq_true rfl) (hI.fit (Nat.le_of_ble_eq_true rfl) (Nat.le_of_ble_eq_true rfl) (Nat.le_of_ble_eq_true rfl)) dX10_update_62 (fun mem62 hx62 => ?_)
              refine g_goto (tgt := 155) hC dX10_update_65 (by decide) ?_
              refine g_iinc hC dX10_update_155 rfl ?_
              dsimp only [List.set]
              refine g_goto (tgt := 24) hC dX10_update_158 (by decide) ?_
              first
              | (obtain rfl : e = (sg ch k).length := by omega
                 exact K9 m1 _ c3 c4)
              | (refine ih (k + 1) mem62 (xs.eraseIdx (plc xs (nu ch k))) (nu ch k) _ _ (by omega) (by omega) hx62.1 (okL_del okx plt) (c5.trans hx62.2.1) ((c6.trans hx62.2.2).mono (by decide)) (fun w => absurd b0 w) (fun _ => ⟨by omega, by rw [g1, upS_d hk dl th], ?_, fun n hn => ?_⟩)
                 · rw [List.length_eraseIdx_of_lt plt, show ((xs.length - 1 : Nat) : Int) = (xs.length : Int) + -1 by omega]; exact g2
                 · rw [th_del hn plt th]; exact g3 n (by omega))
              | exact J24 K x _ ex0 ⟨by omega, by omega⟩ K3 hx18 (by omega) rfl (ch.length + 1) 0 mem0 x.2.2 0 _ _ (Nat.zero_le _) (by omega) hLK okK frB.rf0 chF.rf0 (fun _ => rfl) (fun w => ⟨by omega, by rw [List.drop_zero], by rw [List.drop_zero]; exact hx18.symm.trans w, fun n _ => Iff.rfl⟩)
          · refine g_istore hC dX10_update_47 (Nat.le_of_ble_eq_true rfl) ?_
            dsimp only [List.set]
            refine g_aload_n hC dX10_update_49 rfl ?_
            refine g_getR hC fdX10_62 (by assumption) (by assumption) dX10_update_50 ?_
            refine g_iload_n hC dX10_update_53 rfl ?_
            refine g_zald hC (by assumption) (by omega) (by omega) (by decide) dX10_update_54 ?_
            refine g_if_eq (tgt := 68) hC dX10_update_55 (by decide) ⟨by omega, by omega⟩ (fun h55 => ?_) (fun h55 => ?_)
            · refine g_aload_n hC dX10_update_68 rfl ?_
              refine g_iload_n hC dX10_update_69 rfl ?_
              refine g_iload hC dX10_update_70 rfl ?_
              refine g_aload_n hC dX10_update_72 rfl ?_
              refine g_getR hC fdX10_53 (by assumption) (by assumption) dX10_update_73 ?_
              refine g_iload_n hC dX10_update_76 rfl ?_
              refine g_iald hC (by assumption) (by omega) (by omega) (by decide) dX10_update_77 ?_
              rw [nk]
              refine g_VP hC (kX10_isAt (gl X) (gD X) (gac X) m B K xs (plc xs (nu ch k)) (nu ch k) hM9 lm okx hK ⟨by omega, by omega⟩ (plc_le _ _)) cvX10_isAt lkX10_126 (by assumption) rfl rfl (Nat.le_of_ble_eq_true rfl) (hI.fit (Nat.le_of_ble_eq_true rfl) (Nat.le_of_ble_eq_true rfl) (Nat.le_of_ble_eq_true rfl)) dX10_update_78 (fun x78 hx78 => ?_)
              have hth : (x78 = 1 ∧ nu xs (plc xs (nu ch k)) = nu ch k) ∨ (x78 = 0 ∧ ¬ nu xs (plc xs (nu ch k)) = nu ch k) := by
                rcases hx78 with ⟨w1, w2, w3⟩ | ⟨w1, w2⟩
                · exact Or.inl ⟨w1, w3⟩
                · refine Or.inr ⟨w1, fun q => w2 ⟨?_, q⟩⟩
                  apply Classical.byContradiction
                  intro u
                  rw [nu_out (by omega)] at q
                  omega
              rcases hth with ⟨t1, th⟩ | ⟨t1, th⟩
              · have hb0 : bf < nu ch k := by
                  apply Classical.byContradiction
                  intro w
                  by_cases t0 : nu x.2.2 (plc x.2.2 (nu ch k)) = nu ch k
                  · rw [rfS_t hk dl t0, if_pos (Or.inl (by omega))] at g2; omega
                  · rw [rfS_n hk dl t0, if_pos (Or.inl (by omega))] at g2; omega
                have th0 := (g3 (nu ch k) hb0).mpr th
                rw [rfS_t hk dl th0] at g2
                have hnb : ¬ (nu ch k ≤ bf ∨ 30 < (xs.length : Int)) := fun w => by rw [if_pos w] at g2; omega
                rw [if_neg hnb] at g2
                have plt : plc xs (nu ch k) < xs.length := by
                  apply Classical.byContradiction
                  intro w
                  rw [nu_out (by omega)] at th
                  omega
                refine g_if_ne (tgt := 97) hC dX10_update_81 (by decide) ⟨by omega, by omega⟩ (fun h81 => ?_) (fun h81 => ?_)
                · have cc : chF m B mem0 m1 [7, 9, 10, 11] := by first | exact c6 | exact (c6.trans hx94.2.2).mono (by decide)
                  have vcn : vC m B m1 ch := hvC.st cc (by decide)
                  have sk : m1 (B 20) (k : Int).toNat = (sg ch k).length := (vcn.2 k hk).2.1
                  refine g_aload_n hC dX10_update_97 rfl ?_
                  refine g_getR hC fdX10_29 (by assumption) (by assumption) dX10_update_98 ?_
                  refine g_iload hC dX10_update_101 rfl ?_
                  refine g_aload_n hC dX10_update_103 rfl ?_
                  refine g_getR hC fdX10_56 (by assumption) (by assumption) dX10_update_104 ?_
                  refine g_iload_n hC dX10_update_107 rfl ?_
                  refine g_iald hC (by assumption) (by omega) (by omega) (by decide) dX10_update_108 ?_
                  rw [sk]
                  refine g_iast hC (by assumption) (by omega) (by omega) (by decide) dX10_update_109 ?_
                  obtain ⟨mem5, e5⟩ : ∃ q, q = gup m1 (B 10) (30 * (K : Int) + (plc xs (nu ch k) : Int)).toNat ((sg ch k).length : Int) := ⟨_, rfl⟩
                  rw [← e5]
                  refine g_iconst hC dX10_update_110 ?_
                  refine g_istore hC dX10_update_111 (Nat.le_of_ble_eq_true rfl) ?_
                  dsimp only [List.set]
                  first
                  | (have e9 : (10 * aa + (e : Int)).toNat = 10 * (30 * K + p) + e := by omega
                     rw [e9]
                     exact ih (e + 1) _ (by omega) (by omega) (puL_step hBe (by omega) c3) ((c4.trans (chF.row hBe hmB)).mono (by decide)))
                  | (have e1 : (xs.set (plc xs (nu ch k)) (nu ch k, (sg ch k))).length = xs.length := List.length_set
                     have e2 : ∀ j, nu (xs.set (plc xs (nu ch k)) (nu ch k, (sg ch k))) j = nu xs j := fun j => by
                       rw [nu_set _ plt]
                       by_cases c : j = (plc xs (nu ch k))
                       · rw [if_pos c, c]; exact th.symm
                       · rw [if_neg c]
                     have e3 : ∀ j, sg (xs.set (plc xs (nu ch k)) (nu ch k, (sg ch k))) j = if j = (plc xs (nu ch k)) then (sg ch k) else sg xs j := fun j => sg_set _ plt j
                     refine J113 K (plc xs (nu ch k)) k xs m1 _ bad hK plt okx.1 hk rfl vc1 (fun m3 o5 q1 q2 => ?_) ((sg ch k).length + 1) 0 mem5 (Nat.zero_le _) (by omega) ?_ ?_
                     · obtain ⟨v1, v2⟩ := puL_view lm okx plt q1 q2 e1 e2 e3
                       refine ih (k + 1) m3 (xs.set (plc xs (nu ch k)) (nu ch k, (sg ch k))) (nu ch k) _ _ (by omega) (by omega) v1 (okL_put okx e1 e2 e3 ⟨(kL.2 k).1, (kL.2 k).2.2.2⟩) (c5.trans v2) ((c6.trans q2).mono (by decide)) (fun w => absurd b0 w) (fun _ => ⟨by omega, by rw [g1, upS_s hk dl, lnPut_t th], ?_, fun n hn => ?_⟩)
                       · rw [e1]; exact g2
                       · rw [th_set plt th]; exact g3 n (by omega)
                     · rw [e5, eA]; exact puL_0 hBe
                     · rw [e5]; exact (chF.row hBe hmB).mono (by decide))
                  | (have hle := plc_le (nu ch k) xs
                     have e1 : (xs.insertIdx (plc xs (nu ch k)) (nu ch k, (sg ch k))).length = (xs.insertIdx (plc xs (nu ch k)) (nu ch k, [])).length := by rw [List.length_insertIdx_of_le_length hle, List.length_insertIdx_of_le_length hle]
                     have e0' : (xs.insertIdx (plc xs (nu ch k)) (nu ch k, [])).length = xs.length + 1 := List.length_insertIdx_of_le_length hle _
                     have e2 : ∀ j, nu (xs.insertIdx (plc xs (nu ch k)) (nu ch k, (sg ch k))) j = nu (xs.insertIdx (plc xs (nu ch k)) (nu ch k, [])) j := fun j => by rw [nu_ins _ hle, nu_ins _ hle]
                     have e3 : ∀ j, sg (xs.insertIdx (plc xs (nu ch k)) (nu ch k, (sg ch k))) j = if j = (plc xs (nu ch k)) then (sg ch k) else sg (xs.insertIdx (plc xs (nu ch k)) (nu ch k, [])) j := fun j => by
                       rw [sg_ins _ hle, sg_ins _ hle]
                       by_cases c : j = (plc xs (nu ch k))
                       · rw [if_pos c, if_neg (by omega), if_pos c]
                       · rw [if_neg c, if_neg c, if_neg c]
                     have oki := okL_ins (n := nu ch k) okx (by omega) hle ⟨by omega, by omega⟩
                     refine J113 K (plc xs (nu ch k)) k (xs.insertIdx (plc xs (nu ch k)) (nu ch k, [])) mem94 _ bad hK (by omega) oki.1 hk rfl vcn (fun m3 o5 q1 q2 => ?_) ((sg ch k).length + 1) 0 mem5 (Nat.zero_le _) (by omega) ?_ ?_
                     · obtain ⟨v1, v2⟩ := puL_view hx94.1 oki (by omega) q1 q2 e1 e2 e3
                       refine ih (k + 1) m3 (xs.insertIdx (plc xs (nu ch k)) (nu ch k, (sg ch k))) (nu ch k) _ _ (by omega) (by omega) v1 (okL_put oki e1 e2 e3 ⟨(kL.2 k).1, (kL.2 k).2.2.2⟩) (c5.trans (hx94.2.1.trans v2)) ((cc.trans q2).mono (by decide)) (fun w => absurd b0 w) (fun _ => ⟨by omega, by rw [g1, upS_s hk dl, lnPut_n th (by omega)], ?_, fun n hn => ?_⟩)
                       · rw [e1, e0']; exact g2
                       · rw [th_ins hn]; exact g3 n (by omega)
                     · rw [e5, eA]; exact puL_0 hBe
                     · rw [e5]; exact (chF.row hBe hmB).mono (by decide))
                · exfalso; omega
              · have hb0 : bf < nu ch k := by
                  apply Classical.byContradiction
                  intro w
                  by_cases t0 : nu x.2.2 (plc x.2.2 (nu ch k)) = nu ch k
                  · rw [rfS_t hk dl t0, if_pos (Or.inl (by omega))] at g2; omega
                  · rw [rfS_n hk dl t0, if_pos (Or.inl (by omega))] at g2; omega
                have th0 : ¬ nu x.2.2 (plc x.2.2 (nu ch k)) = nu ch k := fun w => th ((g3 (nu ch k) hb0).mp w)
                rw [rfS_n hk dl th0] at g2
                have hnb : ¬ (nu ch k ≤ bf ∨ 30 < (xs.length : Int) + 1) := fun w => by rw [if_pos w] at g2; omega
                rw [if_neg hnb] at g2
                refine g_if_ne (tgt := 97) hC dX10_update_81 (by decide) ⟨by omega, by omega⟩ (fun h81 => ?_) (fun h81 => ?_)
                · exfalso; omega
                · refine g_aload_n hC dX10_update_84 rfl ?_
                  refine g_iload_n hC dX10_update_85 rfl ?_
                  refine g_iload hC dX10_update_86 rfl ?_
                  refine g_aload_n hC dX10_update_88 rfl ?_
                  refine g_getR hC fdX10_53 (by assumption) (by assumption) dX10_update_89 ?_
                  refine g_iload_n hC dX10_update_92 rfl ?_
                  refine g_iald hC (by assumption) (by omega) (by omega) (by decide) dX10_update_93 ?_
                  rw [nk]
                  refine g_VV hC (kX10_open (gl X) (gD X) (gac X) m B K xs (plc xs (nu ch k)) (nu ch k) hM9 lm okx hK (by omega) (plc_le _ _)) cvX10_open lkX10_130 (by assumption) rfl rfl (Nat.le_of_ble_eq_true rfl) (hI.fit (Nat.le_of_ble_eq_true rfl) (Nat.le_of_ble_eq_true rfl) (Nat.le_of_ble_eq_true rfl)) dX10_update_94 (fun mem94 hx94 => ?_)
                  have cc : chF m B mem0 mem94 [7, 9, 10, 11] := by first | exact c6 | exact (c6.trans hx94.2.2).mono (by decide)
                  have vcn : vC m B mem94 ch := hvC.st cc (by decide)
                  have sk : mem94 (B 20) (k : Int).toNat = (sg ch k).length := (vcn.2 k hk).2.1
                  refine g_aload_n hC dX10_update_97 rfl ?_
                  refine g_getR hC fdX10_29 (by assumption) (by assumption) dX10_update_98 ?_
                  refine g_iload hC dX10_update_101 rfl ?_
                  refine g_aload_n hC dX10_update_103 rfl ?_
                  refine g_getR hC fdX10_56 (by assumption) (by assumption) dX10_update_104 ?_
                  refine g_iload_n hC dX10_update_107 rfl ?_
                  refine g_iald hC (by assumption) (by omega) (by omega) (by decide) dX10_update_108 ?_
                  rw [sk]
                  refine g_iast hC (by assumption) (by omega) (by omega) (by decide) dX10_update_109 ?_
                  obtain ⟨mem5, e5⟩ : ∃ q, q = gup mem94 (B 10) (30 * (K : Int) + (plc xs (nu ch k) : Int)).toNat ((sg ch k).length : Int) := ⟨_, rfl⟩
                  rw [← e5]
                  refine g_iconst hC dX10_update_110 ?_
                  refine g_istore hC dX10_update_111 (Nat.le_of_ble_eq_true rfl) ?_
                  dsimp only [List.set]
                  first
                  | (have e9 : (10 * aa + (e : Int)).toNat = 10 * (30 * K + p) + e := by omega
                     rw [e9]
                     exact ih (e + 1) _ (by omega) (by omega) (puL_step hBe (by omega) c3) ((c4.trans (chF.row hBe hmB)).mono (by decide)))
                  | (have e1 : (xs.set (plc xs (nu ch k)) (nu ch k, (sg ch k))).length = xs.length := List.length_set
                     have e2 : ∀ j, nu (xs.set (plc xs (nu ch k)) (nu ch k, (sg ch k))) j = nu xs j := fun j => by
                       rw [nu_set _ plt]
                       by_cases c : j = (plc xs (nu ch k))
                       · rw [if_pos c, c]; exact th.symm
                       · rw [if_neg c]
                     have e3 : ∀ j, sg (xs.set (plc xs (nu ch k)) (nu ch k, (sg ch k))) j = if j = (plc xs (nu ch k)) then (sg ch k) else sg xs j := fun j => sg_set _ plt j
                     refine J113 K (plc xs (nu ch k)) k xs m1 _ bad hK plt okx.1 hk rfl vc1 (fun m3 o5 q1 q2 => ?_) ((sg ch k).length + 1) 0 mem5 (Nat.zero_le _) (by omega) ?_ ?_
                     · obtain ⟨v1, v2⟩ := puL_view lm okx plt q1 q2 e1 e2 e3
                       refine ih (k + 1) m3 (xs.set (plc xs (nu ch k)) (nu ch k, (sg ch k))) (nu ch k) _ _ (by omega) (by omega) v1 (okL_put okx e1 e2 e3 ⟨(kL.2 k).1, (kL.2 k).2.2.2⟩) (c5.trans v2) ((c6.trans q2).mono (by decide)) (fun w => absurd b0 w) (fun _ => ⟨by omega, by rw [g1, upS_s hk dl, lnPut_t th], ?_, fun n hn => ?_⟩)
                       · rw [e1]; exact g2
                       · rw [th_set plt th]; exact g3 n (by omega)
                     · rw [e5, eA]; exact puL_0 hBe
                     · rw [e5]; exact (chF.row hBe hmB).mono (by decide))
                  | (have hle := plc_le (nu ch k) xs
                     have e1 : (xs.insertIdx (plc xs (nu ch k)) (nu ch k, (sg ch k))).length = (xs.insertIdx (plc xs (nu ch k)) (nu ch k, [])).length := by rw [List.length_insertIdx_of_le_length hle, List.length_insertIdx_of_le_length hle]
                     have e0' : (xs.insertIdx (plc xs (nu ch k)) (nu ch k, [])).length = xs.length + 1 := List.length_insertIdx_of_le_length hle _
                     have e2 : ∀ j, nu (xs.insertIdx (plc xs (nu ch k)) (nu ch k, (sg ch k))) j = nu (xs.insertIdx (plc xs (nu ch k)) (nu ch k, [])) j := fun j => by rw [nu_ins _ hle, nu_ins _ hle]
                     have e3 : ∀ j, sg (xs.insertIdx (plc xs (nu ch k)) (nu ch k, (sg ch k))) j = if j = (plc xs (nu ch k)) then (sg ch k) else sg (xs.insertIdx (plc xs (nu ch k)) (nu ch k, [])) j := fun j => by
                       rw [sg_ins _ hle, sg_ins _ hle]
                       by_cases c : j = (plc xs (nu ch k))
                       · rw [if_pos c, if_neg (by omega), if_pos c]
                       · rw [if_neg c, if_neg c, if_neg c]
                     have oki := okL_ins (n := nu ch k) okx (by omega) hle ⟨by omega, by omega⟩
                     refine J113 K (plc xs (nu ch k)) k (xs.insertIdx (plc xs (nu ch k)) (nu ch k, [])) mem94 _ bad hK (by omega) oki.1 hk rfl vcn (fun m3 o5 q1 q2 => ?_) ((sg ch k).length + 1) 0 mem5 (Nat.zero_le _) (by omega) ?_ ?_
                     · obtain ⟨v1, v2⟩ := puL_view hx94.1 oki (by omega) q1 q2 e1 e2 e3
                       refine ih (k + 1) m3 (xs.insertIdx (plc xs (nu ch k)) (nu ch k, (sg ch k))) (nu ch k) _ _ (by omega) (by omega) v1 (okL_put oki e1 e2 e3 ⟨(kL.2 k).1, (kL.2 k).2.2.2⟩) (c5.trans (hx94.2.1.trans v2)) ((cc.trans q2).mono (by decide)) (fun w => absurd b0 w) (fun _ => ⟨by omega, by rw [g1, upS_s hk dl, lnPut_n th (by omega)], ?_, fun n hn => ?_⟩)
                       · rw [e1, e0']; exact g2
                       · rw [th_ins hn]; exact g3 n (by omega)
                     · rw [e5, eA]; exact puL_0 hBe
                     · rw [e5]; exact (chF.row hBe hmB).mono (by decide))
            · exfalso; omega
  refine g_aload_n hC dX10_update_0 rfl ?_
  refine g_iconst hC dX10_update_1 ?_
  refine g_putI hC fdX10_84 (by assumption) rfl rfl dX10_update_2 ?_
  rw [← e0]
  refine g_aload_n hC dX10_update_5 rfl ?_
  refine g_iload_n hC dX10_update_6 rfl ?_
  refine g_VP hC (kX10_isMember (gl X) (gD X) (gac X) m B ms q hM9 hvM kM i_q) cvX10_isMember lkX10_114 (by assumption) rfl rfl (Nat.le_of_ble_eq_true rfl) (hI.fit (Nat.le_of_ble_eq_true rfl) (Nat.le_of_ble_eq_true rfl) (Nat.le_of_ble_eq_true rfl)) dX10_update_7 (fun x7 hx7 => ?_)
  refine g_if_ne (tgt := 16) hC dX10_update_10 (by decide) ⟨by omega, by omega⟩ (fun h10 => ?_) (fun h10 => ?_)
  · have q7 : memAt ms q ≠ none := by
      rcases hx7 with ⟨-, w⟩ | ⟨w, -⟩
      · exact w
      · omega
    obtain ⟨x, ex0⟩ := Option.ne_none_iff_exists'.mp q7
    obtain ⟨K, eK, K1, K2, K3, hLK⟩ := memAt_view2 hvM ex0
    have kk1 := kM.1
    have okK := (kM.2 _ _ K3).2.2.2.2
    subst eK
    have rb := rfS_le x.2.2 ch 0 x.2.2.length 0 (by omega)
    refine g_aload_n hC dX10_update_16 rfl ?_
    refine g_iload_n hC dX10_update_17 rfl ?_
    refine g_VP hC (kX10_refuses (gl X) (gD X) (gac X) m B K x.2.2 ch hM9 hLK okK ⟨by omega, by omega⟩ hvC kC) cvX10_refuses lkX10_181 (by assumption) rfl rfl (Nat.le_of_ble_eq_true rfl) (hI.fit (Nat.le_of_ble_eq_true rfl) (Nat.le_of_ble_eq_true rfl) (Nat.le_of_ble_eq_true rfl)) dX10_update_18 (fun x18 hx18 => ?_)
    refine g_istore_n hC 2 rfl dX10_update_21 (Nat.le_of_ble_eq_true rfl) ?_
    dsimp only [List.set]
    refine g_iconst hC dX10_update_22 ?_
    refine g_istore_n hC 3 rfl dX10_update_23 (Nat.le_of_ble_eq_true rfl) ?_
    dsimp only [List.set]
    first
    | (obtain rfl : e = (sg ch k).length := by omega
       exact K9 m1 _ c3 c4)
    | (refine ih (k + 1) mem62 (xs.eraseIdx (plc xs (nu ch k))) (nu ch k) _ _ (by omega) (by omega) hx62.1 (okL_del okx plt) (c5.trans hx62.2.1) ((c6.trans hx62.2.2).mono (by decide)) (fun w => absurd b0 w) (fun _ => ⟨by omega, by rw [g1, upS_d hk dl th], ?_, fun n hn => ?_⟩)
       · rw [List.length_eraseIdx_of_lt plt, show ((xs.length - 1 : Nat) : Int) = (xs.length : Int) + -1 by omega]; exact g2
       · rw [th_del hn plt th]; exact g3 n (by omega))
    | exact J24 K x _ ex0 ⟨by omega, by omega⟩ K3 hx18 (by omega) rfl (ch.length + 1) 0 mem0 x.2.2 0 _ _ (Nat.zero_le _) (by omega) hLK okK frB.rf0 chF.rf0 (fun _ => rfl) (fun w => ⟨by omega, by rw [List.drop_zero], by rw [List.drop_zero]; exact hx18.symm.trans w, fun n _ => Iff.rfl⟩)
  · refine g_bipush hC dX10_update_13 (by decide +kernel) ?_
    refine g_iret hC hI rfl dX10_update_15 (Nat.le_of_ble_eq_true rfl) (Nat.le_of_ble_eq_true rfl) ⟨rfl, rfl, _, rfl, ?_⟩
    have e9 : memAt ms q = none := by
      rcases hx7 with ⟨w, -⟩ | ⟨-, w⟩
      · omega
      · exact w
    have u1 : updR ms ch q = -100 := by rw [updR, e9]
    have u2 : updS ms ch q = ms := by rw [updS, e9]
    have u3 : updC ms ch q = ch := by rw [updC, e9]
    rw [u1, u2, u3]
    exact ⟨rfl, ⟨hV9, hc0.2⟩⟩
