section MU
variable {mem mem1 : Nat → Nat → Int} {m : Nat} {B : Nat → Nat} {ch xs ys zs : Lns}
theorem nu_snd {v : Int × List Int} (j : Nat) : nu (xs ++ [v]) j = if j = xs.length then v.1 else nu xs j := by
  unfold nu
  rw [List.getD_eq_getElem?_getD, List.getD_eq_getElem?_getD]
  by_cases h : j < xs.length
  · rw [List.getElem?_append_left h, if_neg (by omega)]
  · rw [List.getElem?_append_right (by omega)]
    by_cases h2 : j = xs.length
    · subst h2; simp
    · rw [if_neg h2, List.getElem?_eq_none (by simp; omega), List.getElem?_eq_none (by omega)]
theorem sg_snd {v : Int × List Int} (j : Nat) : sg (xs ++ [v]) j = if j = xs.length then v.2 else sg xs j := by
  unfold sg
  rw [List.getD_eq_getElem?_getD, List.getD_eq_getElem?_getD]
  by_cases h : j < xs.length
  · rw [List.getElem?_append_left h, if_neg (by omega)]
  · rw [List.getElem?_append_right (by omega)]
    by_cases h2 : j = xs.length
    · subst h2; simp
    · rw [if_neg h2, List.getElem?_eq_none (by simp; omega), List.getElem?_eq_none (by omega)]
theorem set_lastL (v w : Int × List Int) : (xs ++ [v]).set xs.length w = xs ++ [w] := by
  apply List.ext_getElem?
  intro j
  rw [List.getElem?_set]
  by_cases h : xs.length = j
  · subst h; simp
  · rw [if_neg h]
    by_cases h1 : j < xs.length
    · rw [List.getElem?_append_left h1, List.getElem?_append_left h1]
    · rw [List.getElem?_eq_none (by simp; omega), List.getElem?_eq_none (by simp; omega)]
theorem vC_add {k : Nat} {c : Int} (hBe : ∀ i j, (B i = B j) = (i = j)) (hBm : ∀ i, (B i = m) = False) (hmB : ∀ i, (m = B i) = False) (h : vC m B mem ch) (ok : okC ch) (hk : k < ch.length) (hs : sg ch k ≠ []) (hl : (sg ch k).length < 10) : vC m B (gup (gup mem (B 21) (10 * k + (sg ch k).length) c) (B 20) k ((sg ch k).length + 1)) (ch.set k (nu ch k, sg ch k ++ [c])) ∧ chF m B mem (gup (gup mem (B 21) (10 * k + (sg ch k).length) c) (B 20) k ((sg ch k).length + 1)) [20, 21] := by
  obtain ⟨h1, h2⟩ := h
  refine ⟨⟨?_, fun j hj => ?_⟩, ((chF.row hBe hmB).trans (chF.row hBe hmB)).mono (by decide)⟩
  · rw [List.length_set]; simp [gup, hmB]; exact h1
  · rw [List.length_set] at hj
    rw [nu_set _ hk, sg_set _ hk]
    obtain ⟨a1, a2, a3, a4⟩ := h2 j hj
    by_cases e : j = k
    · subst e
      rw [if_pos rfl, if_pos rfl]
      refine ⟨?_, ?_, ?_, fun i hi => ?_⟩
      · simp [gup, hBe]; exact a1
      · simp [gup, hBe]
      · simp [gup, hBe]; rw [a3, if_neg hs]
      · rw [getD_snd]
        simp only [List.length_append, List.length_cons, List.length_nil] at hi
        by_cases q : i = (sg ch j).length
        · rw [if_pos q, q]; simp [gup, hBe]
        · rw [if_neg q]; simp [gup, hBe, q]; exact a4 i (by omega)
    · rw [if_neg e, if_neg e]
      refine ⟨?_, ?_, ?_, fun i hi => ?_⟩
      · simp [gup, hBe]; exact a1
      · simp [gup, hBe, e]; exact a2
      · simp [gup, hBe]; exact a3
      · have q1 := (ok.2 j).1
        have q : 10 * j + i ≠ 10 * k + (sg ch k).length := by omega
        simp [gup, hBe, q]; exact a4 i hi
theorem vC_new {n c d z : Int} {s : List Int} (hBe : ∀ i j, (B i = B j) = (i = j)) (hBm : ∀ i, (B i = m) = False) (hmB : ∀ i, (m = B i) = False) (h : vC m B mem ch) (ok : okC ch) (hs : (s = [] ∧ d = 1 ∧ z = 0) ∨ (s = [c] ∧ d = 0 ∧ z = 1)) : vC m B (gup (gup (gup (gup (gup mem (B 19) ch.length n) (B 22) ch.length d) (B 20) ch.length z) (B 21) (10 * ch.length) c) m 18 (ch.length + 1)) (ch ++ [(n, s)]) ∧ chF m B mem (gup (gup (gup (gup (gup mem (B 19) ch.length n) (B 22) ch.length d) (B 20) ch.length z) (B 21) (10 * ch.length) c) m 18 (ch.length + 1)) [18, 19, 20, 21, 22] := by
  obtain ⟨h1, h2⟩ := h
  refine ⟨⟨?_, fun j hj => ?_⟩, (((((chF.row hBe hmB).trans (chF.row hBe hmB)).trans (chF.row hBe hmB)).trans (chF.row hBe hmB)).trans (chF.fld hmB)).mono (by decide)⟩
  · rw [gup_s]; simp
  · rw [nu_snd, sg_snd]
    by_cases e : j = ch.length
    · subst e
      rw [if_pos rfl, if_pos rfl]
      rcases hs with ⟨s1, s2, s3⟩ | ⟨s1, s2, s3⟩
      · refine ⟨?_, ?_, ?_, fun i hi => ?_⟩
        · simp [gup, hBe, hBm]
        · simp [gup, hBe, hBm, s1, s3]
        · simp [gup, hBe, hBm, s1, s2]
        · rw [s1] at hi; exact absurd hi (Nat.not_lt_zero i)
      · refine ⟨?_, ?_, ?_, fun i hi => ?_⟩
        · simp [gup, hBe, hBm]
        · simp [gup, hBe, hBm, s1, s3]
        · simp [gup, hBe, hBm, s1, s2]
        · rw [s1] at hi
          have : i = 0 := by simp at hi; exact hi
          subst this
          simp [gup, hBe, hBm, s1]
    · have hj2 : j < ch.length := by simp at hj; omega
      rw [if_neg e, if_neg e]
      obtain ⟨a1, a2, a3, a4⟩ := h2 j hj2
      refine ⟨?_, ?_, ?_, fun i hi => ?_⟩
      · simp [gup, hBe, hBm, e]; exact a1
      · simp [gup, hBe, hBm, e]; exact a2
      · simp [gup, hBe, hBm, e]; exact a3
      · have q1 := (ok.2 j).1
        have q : 10 * j + i ≠ 10 * ch.length := by omega
        simp [gup, hBe, hBm, q]; exact a4 i hi
theorem plc_mono {n0 n : Int} (h : n0 < n) : plc xs n0 ≤ plc xs n := by
  apply Classical.byContradiction
  intro q
  have h1 := plc_lt n0 xs (plc xs n) (by omega)
  have h2 := plc_ge n xs (by have := plc_le n0 xs; omega)
  omega
theorem plc_ins {n0 n : Int} {s : List Int} (h : n0 < n) : plc (xs.insertIdx (plc xs n0) (n0, s)) n = plc xs n + 1 := by
  have h1 := plc_le n xs
  have h0 := plc_le n0 xs
  have hm := plc_mono (xs := xs) h
  have hlen : (xs.insertIdx (plc xs n0) (n0, s)).length = xs.length + 1 := List.length_insertIdx_of_le_length h0 _
  refine (plc_eq (by omega) (fun j hj => ?_) (fun hp => ?_)).symm
  · rw [nu_ins _ h0]
    by_cases c1 : j < plc xs n0
    · rw [if_pos c1]; have := plc_lt n0 xs j c1; omega
    · rw [if_neg c1]
      by_cases c2 : j = plc xs n0
      · rw [if_pos c2]; exact h
      · rw [if_neg c2]; exact plc_lt n xs (j - 1) (by omega)
  · rw [nu_ins _ h0, if_neg (by omega), if_neg (by omega)]
    exact plc_ge n xs (by omega)
theorem th_ins {n0 n : Int} {s : List Int} (h : n0 < n) : nu (xs.insertIdx (plc xs n0) (n0, s)) (plc (xs.insertIdx (plc xs n0) (n0, s)) n) = nu xs (plc xs n) := by
  have hm := plc_mono (xs := xs) h
  rw [plc_ins h, nu_ins _ (plc_le n0 xs), if_neg (by omega), if_neg (by omega)]
  rfl
theorem th_del {n0 n : Int} (h : n0 < n) (hp : plc xs n0 < xs.length) (e : nu xs (plc xs n0) = n0) : nu (xs.eraseIdx (plc xs n0)) (plc (xs.eraseIdx (plc xs n0)) n) = nu xs (plc xs n) := by
  have hm := plc_mono (xs := xs) h
  have h1 := plc_le n xs
  have hlt : plc xs n0 < plc xs n := by
    apply Classical.byContradiction
    intro q
    have w : plc xs n = plc xs n0 := by omega
    have := plc_ge n xs (by omega)
    rw [w, e] at this
    omega
  have hlen : (xs.eraseIdx (plc xs n0)).length = xs.length - 1 := List.length_eraseIdx_of_lt hp
  have w : plc xs n - 1 = plc (xs.eraseIdx (plc xs n0)) n := by
    refine plc_eq (by omega) (fun j hj => ?_) (fun hp => ?_)
    · rw [nu_del]
      by_cases c1 : j < plc xs n0
      · rw [if_pos c1]; exact plc_lt n xs j (by omega)
      · rw [if_neg c1]; exact plc_lt n xs (j + 1) (by omega)
    · rw [nu_del, if_neg (by omega), show plc xs n - 1 + 1 = plc xs n by omega]
      exact plc_ge n xs (by omega)
  rw [← w, nu_del, if_neg (by omega), show plc xs n - 1 + 1 = plc xs n by omega]
theorem th_set {n0 n : Int} {s : List Int} (hp : plc xs n0 < xs.length) (e : nu xs (plc xs n0) = n0) : nu (xs.set (plc xs n0) (n0, s)) (plc (xs.set (plc xs n0) (n0, s)) n) = nu xs (plc xs n) := by
  have hn : ∀ j, nu (xs.set (plc xs n0) (n0, s)) j = nu xs j := fun j => by
    rw [nu_set _ hp]
    by_cases c : j = plc xs n0
    · rw [if_pos c, c]; exact e.symm
    · rw [if_neg c]
  have w : plc xs n = plc (xs.set (plc xs n0) (n0, s)) n := by
    refine plc_eq (by rw [List.length_set]; exact plc_le n xs) (fun j hj => ?_) (fun hp => ?_)
    · rw [hn]; exact plc_lt n xs j hj
    · rw [hn]; rw [List.length_set] at hp; exact plc_ge n xs hp
  rw [← w, hn]
/-- a line's signs put anew -/
def puL (B : Nat → Nat) (mem mem1 : Nat → Nat → Int) (A e : Nat) (s : List Int) : Prop := mem1 (B 10) A = s.length ∧ (∀ i, i < e → mem1 (B 11) (10 * A + i) = s.getD i 0) ∧ ∀ a, a ≠ A → mem1 (B 10) a = mem (B 10) a ∧ ∀ i, i < 10 → mem1 (B 11) (10 * a + i) = mem (B 11) (10 * a + i)
theorem puL_view {K p : Nat} {s : List Int} (hl : lnM B mem K ys) (ok : okL ys) (hp : p < ys.length) (hq : puL B mem mem1 (30 * K + p) s.length s) (hc : chF m B mem mem1 [10, 11]) (e1 : zs.length = ys.length) (e2 : ∀ j, nu zs j = nu ys j) (e3 : ∀ j, sg zs j = if j = p then s else sg ys j) : lnM B mem1 K zs ∧ frB B mem mem1 K := by
  obtain ⟨q1, q2, q3⟩ := hq
  have k1 := ok.1
  refine ⟨⟨?_, fun j hj => ?_⟩, fun j _ => ?_, fun a ha => ?_⟩
  · rw [(hc.1 7 (by decide)).2, e1]; exact hl.1
  · rw [e1] at hj
    obtain ⟨a1, a2, a3⟩ := hl.2 j hj
    rw [e2, e3, (hc.1 9 (by decide)).2]
    refine ⟨a1, ?_⟩
    by_cases c : j = p
    · rw [if_pos c, c]; exact ⟨q1, q2⟩
    · rw [if_neg c]
      obtain ⟨b1, b2⟩ := q3 (30 * K + j) (by omega)
      refine ⟨by rw [b1]; exact a2, fun i hi => ?_⟩
      rw [b2 i (by have := (ok.2 j).1; omega)]
      exact a3 i hi
  · rw [(hc.1 7 (by decide)).2]
  · obtain ⟨b1, b2⟩ := q3 a (by omega)
    exact ⟨by rw [(hc.1 9 (by decide)).2], b1, b2⟩
theorem okL_put {p : Nat} {s : List Int} (ok : okL ys) (e1 : zs.length = ys.length) (e2 : ∀ j, nu zs j = nu ys j) (e3 : ∀ j, sg zs j = if j = p then s else sg ys j) (hs : s.length ≤ 10 ∧ ∀ i, -128 ≤ s.getD i 0 ∧ s.getD i 0 < 128) : okL zs := by
  refine ⟨by rw [e1]; exact ok.1, fun j => ?_⟩
  obtain ⟨a1, a2, a3, a4⟩ := ok.2 j
  rw [e2, e3]
  by_cases c : j = p
  · rw [if_pos c]; exact ⟨hs.1, a2, a3, hs.2⟩
  · rw [if_neg c]; exact ⟨a1, a2, a3, a4⟩
theorem okL_del {p : Nat} (ok : okL ys) (hp : p < ys.length) : okL (ys.eraseIdx p) := by
  refine ⟨by rw [List.length_eraseIdx_of_lt hp]; have := ok.1; omega, fun j => ?_⟩
  rw [nu_del, sg_del]
  by_cases c : j < p
  · rw [if_pos c, if_pos c]; exact ok.2 j
  · rw [if_neg c, if_neg c]; exact ok.2 (j + 1)
theorem lnPut_t {n : Int} {s : List Int} (h : nu xs (plc xs n) = n) : lnPut xs n s = xs.set (plc xs n) (n, s) := if_pos h
theorem lnPut_n {n : Int} {s : List Int} (h : ¬ nu xs (plc xs n) = n) (hl : xs.length < 30) : lnPut xs n s = xs.insertIdx (plc xs n) (n, s) := (if_neg h).trans (if_pos hl)
theorem upS_d {k : Nat} (h : k < ch.length) (dl : sg ch k = []) (th : nu xs (plc xs (nu ch k)) = nu ch k) : upS xs (ch.drop k) = upS (xs.eraseIdx (plc xs (nu ch k))) (ch.drop (k + 1)) := by
  rw [drop_ln h, upS]
  simp only [dl, th, if_true]
theorem upS_s {k : Nat} (h : k < ch.length) (dl : ¬ sg ch k = []) : upS xs (ch.drop k) = upS (lnPut xs (nu ch k) (sg ch k)) (ch.drop (k + 1)) := by
  rw [drop_ln h, upS]
  simp only [dl, if_false]
end MU
set_option maxHeartbeats 4000000 in
set_option maxRecDepth 100000 in
theorem kX10_change (lc : Launch) (D : va_G) (ac : Nat → ClassId) {sh : Nat → Nat × Nat} {rf : Nat → Nat → Option Nat} {mem : Nat → Nat → Int} (m : Nat) (B : Nat → Nat) (rp ex ar : List Int) (ms : List (Option MemT)) (ss : List (Option SetT)) (ch : Lns) (ds : Dfs) (lk : Nat) (g y z : Int) (n c : Int) (hM : MO sh rf m B) (hV : MV m B mem rp ms ss ch ds lk ex ar g y z) (kC : okC ch) (h_n : inR n) (h_c : inR c) : gMet lc D ac mX10_change 3 [.ref m, .int (iI n), .int (iI c)] 0 0 sh rf mem (pV sh rf (fun mem1 => ∃ ys, chR ch n c ys ∧ MV m B mem1 rp ms ss ys ds lk ex ar g y z ∧ chA m B mem mem1)) := by
  refine gMet.mk (by decide) (by intro v hv; simp at hv; (try rcases hv with rfl | rfl | rfl) <;> rfl) (Nat.le_of_ble_eq_true rfl) (fun X hC hI => ?_)
  show gG X sh rf mem 0 0 0 [some (.ref m), some (.int (iI n)), some (.int (iI c)), none] []
  have hM9 := hM
  obtain ⟨mo, R4, S4, R5, S5, R6, S6, R7, S7, R8, S8, R9, S9, R10, S10, R11, S11, R12, S12, R13, S13, R14, S14, R15, S15, R16, S16, R17, S17, R19, S19, R20, S20, R21, S21, R22, S22, R25, S25, R26, S26, R27, S27, R30, S30, R31, S31, hBe, hBm, hmB⟩ := hM
  have i_n := h_n
  obtain ⟨n1, n2⟩ := h_n
  have i_c := h_c
  obtain ⟨c1, c2⟩ := h_c
  obtain ⟨mem0, e0⟩ : ∃ q, q = gup mem m 0 0 := ⟨_, rfl⟩
  obtain ⟨hV0, hc0⟩ := MV.code (v := 0) hmB hV
  rw [← e0] at hV0 hc0
  have hV9 := hV0
  obtain ⟨hvL, hvM, hvS, hvC, hvD, hvO, hvI, hvT⟩ := hV0
  have l18 := hvC.1
  have kc := kC.1
  have J97 : (1 ≤ n ∧ n ≤ 9999) → (c = 0 ∨ ((32 ≤ c ∧ c ≤ 126) ∧ ¬ tk ch n)) → ∀ o3, gG X sh rf mem0 0 0 97 [some (.ref m), some (.int (iI n)), some (.int (iI c)), o3] [] := by
    intro hn hc3 o3
    refine g_aload_n hC dX10_change_97 rfl ?_
    rcases (show c = 0 ∨ c ≠ 0 by omega) with hz | hz
    · refine g_getI hC fdX10_178 (by assumption) dX10_change_98 ?_
      refine g_bipush hC dX10_change_101 (by decide +kernel) ?_
      refine g_icmp_ne (tgt := 107) hC dX10_change_103 (by decide) ⟨by omega, by omega⟩ ⟨by omega, by omega⟩ (fun h103 => ?_) (fun h103 => ?_)
      · refine g_aload_n hC dX10_change_107 rfl ?_
        refine g_getR hC fdX10_53 (by assumption) (by assumption) dX10_change_108 ?_
        refine g_aload_n hC dX10_change_111 rfl ?_
        refine g_getI hC fdX10_178 (by assumption) dX10_change_112 ?_
        refine g_iload_n hC dX10_change_115 rfl ?_
        refine g_iast hC (by assumption) (by omega) (by omega) (by decide) dX10_change_116 ?_
        obtain ⟨mem3, e3⟩ : ∃ q, q = gup mem0 (B 19) (mem0 m 18).toNat n := ⟨_, rfl⟩
        rw [← e3]
        have t3 : mem3 m 18 = ch.length := by rw [e3, gup_a _ _ _ _ (by simp [hmB])]; exact l18
        have w3 : (mem3 m 18).toNat = ch.length := by omega
        obtain ⟨d, ed⟩ : ∃ d : Int, d = if c = 0 then 1 else 0 := ⟨_, rfl⟩
        have d01 : d = 0 ∨ d = 1 := by rw [ed]; split <;> omega
        refine g_aload_n hC dX10_change_117 rfl ?_
        refine g_getR hC fdX10_62 (by assumption) (by assumption) dX10_change_118 ?_
        refine g_aload_n hC dX10_change_121 rfl ?_
        refine g_getI hC fdX10_178 (by assumption) dX10_change_122 ?_
        refine g_iload_n hC dX10_change_125 rfl ?_
        refine g_if_ne (tgt := 133) hC dX10_change_126 (by decide) ⟨by omega, by omega⟩ (fun h126 => ?_) (fun h126 => ?_)
        · exfalso; omega
        · refine g_iconst hC dX10_change_129 ?_
          refine g_goto (tgt := 134) hC dX10_change_130 (by decide) ?_
          refine g_topI (a := d) (by first | (rw [ed, if_pos (by omega)]; done) | (rw [ed, if_neg (by omega)]; done)) ?_
          refine g_zast hC (by assumption) (by omega) (by omega) (by decide) (by omega) dX10_change_134 ?_
          obtain ⟨mem4, e4⟩ : ∃ q, q = gup mem3 (B 22) (mem3 m 18).toNat d := ⟨_, rfl⟩
          rw [← e4]
          have t4 : mem4 m 18 = ch.length := by rw [e4, gup_a _ _ _ _ (by simp [hmB])]; exact t3
          have w4 : (mem4 m 18).toNat = ch.length := by omega
          refine g_aload_n hC dX10_change_135 rfl ?_
          refine g_getR hC fdX10_56 (by assumption) (by assumption) dX10_change_136 ?_
          refine g_aload_n hC dX10_change_139 rfl ?_
          refine g_getI hC fdX10_178 (by assumption) dX10_change_140 ?_
          refine g_iload_n hC dX10_change_143 rfl ?_
          refine g_if_ne (tgt := 151) hC dX10_change_144 (by decide) ⟨by omega, by omega⟩ (fun h144 => ?_) (fun h144 => ?_)
          · exfalso; omega
          · refine g_iconst hC dX10_change_147 ?_
            refine g_goto (tgt := 152) hC dX10_change_148 (by decide) ?_
            refine g_topI (a := 1 - d) (by first | (rw [ed, if_pos (by omega)]; rfl) | (rw [ed, if_neg (by omega)]; rfl)) ?_
            refine g_iast hC (by assumption) (by omega) (by omega) (by decide) dX10_change_152 ?_
            obtain ⟨mem5, e5⟩ : ∃ q, q = gup mem4 (B 20) (mem4 m 18).toNat (1 - d) := ⟨_, rfl⟩
            rw [← e5]
            have t5 : mem5 m 18 = ch.length := by rw [e5, gup_a _ _ _ _ (by simp [hmB])]; exact t4
            have w5 : (10 * mem5 m 18).toNat = 10 * ch.length := by omega
            refine g_aload_n hC dX10_change_153 rfl ?_
            refine g_getR hC fdX10_59 (by assumption) (by assumption) dX10_change_154 ?_
            refine g_bipush hC dX10_change_157 (by decide +kernel) ?_
            refine g_aload_n hC dX10_change_159 rfl ?_
            refine g_getI hC fdX10_178 (by assumption) dX10_change_160 ?_
            refine g_imul hC dX10_change_163 ?_
            refine g_iload_n hC dX10_change_164 rfl ?_
            refine g_iast hC (by assumption) (by omega) (by omega) (by decide) dX10_change_165 ?_
            obtain ⟨mem6, e6⟩ : ∃ q, q = gup mem5 (B 21) (10 * mem5 m 18).toNat c := ⟨_, rfl⟩
            rw [← e6]
            have t6 : mem6 m 18 = ch.length := by rw [e6, gup_a _ _ _ _ (by simp [hmB])]; exact t5
            refine g_aload_n hC dX10_change_166 rfl ?_
            refine g_dup hC dX10_change_167 rfl ?_
            refine g_getI hC fdX10_178 (by assumption) dX10_change_168 ?_
            refine g_iconst hC dX10_change_171 ?_
            refine g_iadd hC dX10_change_172 ?_
            refine g_putI hC fdX10_178 (by assumption) rfl rfl dX10_change_173 ?_
            refine g_vret hC hI rfl dX10_change_176 (Nat.le_of_ble_eq_true rfl) (Nat.le_of_ble_eq_true rfl) ⟨rfl, rfl, rfl, ?_⟩
            rw [t6, e6, w5, e5, w4, e4, w3, e3, show (mem0 m 18).toNat = ch.length by omega]
            first
            | (obtain ⟨v1, v2⟩ := vC_new (n := n) (c := c) (d := d) (z := 1 - d) (s := []) hBe hBm hmB hvC kC (Or.inl ⟨rfl, by rw [ed, if_pos hz], by rw [ed, if_pos hz]; rfl⟩)
               refine ⟨ch ++ [(n, [])], ⟨fun w => absurd hn w, fun w => absurd (Or.inl hz) w, fun _ _ => by rw [chDel, if_pos (by omega)], fun _ w => absurd w (by omega)⟩, ?_⟩
               exact ⟨⟨hvL.st v2 (by decide), hvM.st v2 (by decide), hvS.st v2 (by decide), v1, hvD.st v2 (by decide), hvO.st v2 (by decide), hvI.st v2 (by decide), hvT.st v2 (by decide)⟩, chA.trans hc0.2 v2.2⟩)
            | (have hc4 := hc3.resolve_left hz
               obtain ⟨v1, v2⟩ := vC_new (n := n) (c := c) (d := d) (z := 1 - d) (s := [c]) hBe hBm hmB hvC kC (Or.inr ⟨rfl, by rw [ed, if_neg hz], by rw [ed, if_neg hz]; rfl⟩)
               have eA : lnAdd (ch ++ [(n, [])]) ch.length c = ch ++ [(n, [c])] := by
                 rw [lnAdd, sg_snd, nu_snd, if_pos rfl, if_pos rfl, if_pos ⟨by simp, by simp⟩, set_lastL]
                 rfl
               refine ⟨ch ++ [(n, [c])], ⟨fun w => absurd hn w, fun w => absurd (Or.inr hc4.1) w, fun _ w => absurd w hz, fun _ _ => ⟨fun w => absurd w hc4.2, fun _ _ => eA.symm, fun _ w => absurd (show ch.length < 20 by omega) w⟩⟩, ?_⟩
               exact ⟨⟨hvL.st v2 (by decide), hvM.st v2 (by decide), hvS.st v2 (by decide), v1, hvD.st v2 (by decide), hvO.st v2 (by decide), hvI.st v2 (by decide), hvT.st v2 (by decide)⟩, chA.trans hc0.2 v2.2⟩)
      · refine g_vret hC hI rfl dX10_change_106 (Nat.le_of_ble_eq_true rfl) (Nat.le_of_ble_eq_true rfl) ⟨rfl, rfl, rfl, ?_⟩
        refine ⟨ch, ⟨fun _ => rfl, fun _ => rfl, fun w1 w2 => ?_, fun w1 w2 => ?_⟩, ⟨hV9, hc0.2⟩⟩
        · rw [chDel, if_neg (by omega)]
        · exact ⟨fun w => absurd w (hc3.resolve_left (by omega)).2, fun _ w => absurd w (by omega), fun _ _ => rfl⟩
    · refine g_getI hC fdX10_178 (by assumption) dX10_change_98 ?_
      refine g_bipush hC dX10_change_101 (by decide +kernel) ?_
      refine g_icmp_ne (tgt := 107) hC dX10_change_103 (by decide) ⟨by omega, by omega⟩ ⟨by omega, by omega⟩ (fun h103 => ?_) (fun h103 => ?_)
      · refine g_aload_n hC dX10_change_107 rfl ?_
        refine g_getR hC fdX10_53 (by assumption) (by assumption) dX10_change_108 ?_
        refine g_aload_n hC dX10_change_111 rfl ?_
        refine g_getI hC fdX10_178 (by assumption) dX10_change_112 ?_
        refine g_iload_n hC dX10_change_115 rfl ?_
        refine g_iast hC (by assumption) (by omega) (by omega) (by decide) dX10_change_116 ?_
        obtain ⟨mem3, e3⟩ : ∃ q, q = gup mem0 (B 19) (mem0 m 18).toNat n := ⟨_, rfl⟩
        rw [← e3]
        have t3 : mem3 m 18 = ch.length := by rw [e3, gup_a _ _ _ _ (by simp [hmB])]; exact l18
        have w3 : (mem3 m 18).toNat = ch.length := by omega
        obtain ⟨d, ed⟩ : ∃ d : Int, d = if c = 0 then 1 else 0 := ⟨_, rfl⟩
        have d01 : d = 0 ∨ d = 1 := by rw [ed]; split <;> omega
        refine g_aload_n hC dX10_change_117 rfl ?_
        refine g_getR hC fdX10_62 (by assumption) (by assumption) dX10_change_118 ?_
        refine g_aload_n hC dX10_change_121 rfl ?_
        refine g_getI hC fdX10_178 (by assumption) dX10_change_122 ?_
        refine g_iload_n hC dX10_change_125 rfl ?_
        refine g_if_ne (tgt := 133) hC dX10_change_126 (by decide) ⟨by omega, by omega⟩ (fun h126 => ?_) (fun h126 => ?_)
        · refine g_iconst hC dX10_change_133 ?_
          refine g_topI (a := d) (by first | (rw [ed, if_pos (by omega)]; done) | (rw [ed, if_neg (by omega)]; done)) ?_
          refine g_zast hC (by assumption) (by omega) (by omega) (by decide) (by omega) dX10_change_134 ?_
          obtain ⟨mem4, e4⟩ : ∃ q, q = gup mem3 (B 22) (mem3 m 18).toNat d := ⟨_, rfl⟩
          rw [← e4]
          have t4 : mem4 m 18 = ch.length := by rw [e4, gup_a _ _ _ _ (by simp [hmB])]; exact t3
          have w4 : (mem4 m 18).toNat = ch.length := by omega
          refine g_aload_n hC dX10_change_135 rfl ?_
          refine g_getR hC fdX10_56 (by assumption) (by assumption) dX10_change_136 ?_
          refine g_aload_n hC dX10_change_139 rfl ?_
          refine g_getI hC fdX10_178 (by assumption) dX10_change_140 ?_
          refine g_iload_n hC dX10_change_143 rfl ?_
          refine g_if_ne (tgt := 151) hC dX10_change_144 (by decide) ⟨by omega, by omega⟩ (fun h144 => ?_) (fun h144 => ?_)
          · refine g_iconst hC dX10_change_151 ?_
            refine g_topI (a := 1 - d) (by first | (rw [ed, if_pos (by omega)]; rfl) | (rw [ed, if_neg (by omega)]; rfl)) ?_
            refine g_iast hC (by assumption) (by omega) (by omega) (by decide) dX10_change_152 ?_
            obtain ⟨mem5, e5⟩ : ∃ q, q = gup mem4 (B 20) (mem4 m 18).toNat (1 - d) := ⟨_, rfl⟩
            rw [← e5]
            have t5 : mem5 m 18 = ch.length := by rw [e5, gup_a _ _ _ _ (by simp [hmB])]; exact t4
            have w5 : (10 * mem5 m 18).toNat = 10 * ch.length := by omega
            refine g_aload_n hC dX10_change_153 rfl ?_
            refine g_getR hC fdX10_59 (by assumption) (by assumption) dX10_change_154 ?_
            refine g_bipush hC dX10_change_157 (by decide +kernel) ?_
            refine g_aload_n hC dX10_change_159 rfl ?_
            refine g_getI hC fdX10_178 (by assumption) dX10_change_160 ?_
            refine g_imul hC dX10_change_163 ?_
            refine g_iload_n hC dX10_change_164 rfl ?_
            refine g_iast hC (by assumption) (by omega) (by omega) (by decide) dX10_change_165 ?_
            obtain ⟨mem6, e6⟩ : ∃ q, q = gup mem5 (B 21) (10 * mem5 m 18).toNat c := ⟨_, rfl⟩
            rw [← e6]
            have t6 : mem6 m 18 = ch.length := by rw [e6, gup_a _ _ _ _ (by simp [hmB])]; exact t5
            refine g_aload_n hC dX10_change_166 rfl ?_
            refine g_dup hC dX10_change_167 rfl ?_
            refine g_getI hC fdX10_178 (by assumption) dX10_change_168 ?_
            refine g_iconst hC dX10_change_171 ?_
            refine g_iadd hC dX10_change_172 ?_
            refine g_putI hC fdX10_178 (by assumption) rfl rfl dX10_change_173 ?_
            refine g_vret hC hI rfl dX10_change_176 (Nat.le_of_ble_eq_true rfl) (Nat.le_of_ble_eq_true rfl) ⟨rfl, rfl, rfl, ?_⟩
            rw [t6, e6, w5, e5, w4, e4, w3, e3, show (mem0 m 18).toNat = ch.length by omega]
            first
            | (obtain ⟨v1, v2⟩ := vC_new (n := n) (c := c) (d := d) (z := 1 - d) (s := []) hBe hBm hmB hvC kC (Or.inl ⟨rfl, by rw [ed, if_pos hz], by rw [ed, if_pos hz]; rfl⟩)
               refine ⟨ch ++ [(n, [])], ⟨fun w => absurd hn w, fun w => absurd (Or.inl hz) w, fun _ _ => by rw [chDel, if_pos (by omega)], fun _ w => absurd w (by omega)⟩, ?_⟩
               exact ⟨⟨hvL.st v2 (by decide), hvM.st v2 (by decide), hvS.st v2 (by decide), v1, hvD.st v2 (by decide), hvO.st v2 (by decide), hvI.st v2 (by decide), hvT.st v2 (by decide)⟩, chA.trans hc0.2 v2.2⟩)
            | (have hc4 := hc3.resolve_left hz
               obtain ⟨v1, v2⟩ := vC_new (n := n) (c := c) (d := d) (z := 1 - d) (s := [c]) hBe hBm hmB hvC kC (Or.inr ⟨rfl, by rw [ed, if_neg hz], by rw [ed, if_neg hz]; rfl⟩)
               have eA : lnAdd (ch ++ [(n, [])]) ch.length c = ch ++ [(n, [c])] := by
                 rw [lnAdd, sg_snd, nu_snd, if_pos rfl, if_pos rfl, if_pos ⟨by simp, by simp⟩, set_lastL]
                 rfl
               refine ⟨ch ++ [(n, [c])], ⟨fun w => absurd hn w, fun w => absurd (Or.inr hc4.1) w, fun _ w => absurd w hz, fun _ _ => ⟨fun w => absurd w hc4.2, fun _ _ => eA.symm, fun _ w => absurd (show ch.length < 20 by omega) w⟩⟩, ?_⟩
               exact ⟨⟨hvL.st v2 (by decide), hvM.st v2 (by decide), hvS.st v2 (by decide), v1, hvD.st v2 (by decide), hvO.st v2 (by decide), hvI.st v2 (by decide), hvT.st v2 (by decide)⟩, chA.trans hc0.2 v2.2⟩)
          · exfalso; omega
        · exfalso; omega
      · refine g_vret hC hI rfl dX10_change_106 (Nat.le_of_ble_eq_true rfl) (Nat.le_of_ble_eq_true rfl) ⟨rfl, rfl, rfl, ?_⟩
        refine ⟨ch, ⟨fun _ => rfl, fun _ => rfl, fun w1 w2 => ?_, fun w1 w2 => ?_⟩, ⟨hV9, hc0.2⟩⟩
        · rw [chDel, if_neg (by omega)]
        · exact ⟨fun w => absurd w (hc3.resolve_left (by omega)).2, fun _ w => absurd w (by omega), fun _ _ => rfl⟩
  refine g_aload_n hC dX10_change_0 rfl ?_
  refine g_iconst hC dX10_change_1 ?_
  refine g_putI hC fdX10_84 (by assumption) rfl rfl dX10_change_2 ?_
  rw [← e0]
  refine g_iload_n hC dX10_change_5 rfl ?_
  refine g_SP hC (kX10_isNumber (gl X) (gD X) (gac X) n i_n) csX10_isNumber lkX10_117 rfl rfl (Nat.le_of_ble_eq_true rfl) (hI.fit (Nat.le_of_ble_eq_true rfl) (Nat.le_of_ble_eq_true rfl) (Nat.le_of_ble_eq_true rfl)) dX10_change_6 (fun x6 hx6 => ?_)
  refine g_if_eq (tgt := 23) hC dX10_change_9 (by decide) ⟨by omega, by omega⟩ (fun h9 => ?_) (fun h9 => ?_)
  · refine g_vret hC hI rfl dX10_change_23 (Nat.le_of_ble_eq_true rfl) (Nat.le_of_ble_eq_true rfl) ⟨rfl, rfl, rfl, ?_⟩
    refine ⟨ch, ⟨fun _ => rfl, fun _ => rfl, fun w1 w2 => ?_, fun w1 w2 => ?_⟩, ⟨hV9, hc0.2⟩⟩
    · exfalso; omega
    · exfalso; omega
  · refine g_iload_n hC dX10_change_12 rfl ?_
    refine g_if_eq (tgt := 24) hC dX10_change_13 (by decide) ⟨by omega, by omega⟩ (fun h13 => ?_) (fun h13 => ?_)
    · refine g_aload_n hC dX10_change_24 rfl ?_
      refine g_getI hC fdX10_178 (by assumption) dX10_change_25 ?_
      refine g_iconst hC dX10_change_28 ?_
      refine g_isub hC dX10_change_29 ?_
      refine g_istore_n hC 3 rfl dX10_change_30 (Nat.le_of_ble_eq_true rfl) ?_
      dsimp only [List.set]
      refine g_iload_n hC dX10_change_31 rfl ?_
      refine g_if_eq (tgt := 97) hC dX10_change_32 (by decide) ⟨by omega, by omega⟩ (fun h32 => ?_) (fun h32 => ?_)
      · first
        | exact J97 (by omega) (Or.inl (by omega)) _
        | (refine J97 (by omega) (Or.inr ⟨by omega, fun w => ?_⟩) _
           have w1 := w.1
           have w2 := w.2.1
           have w3 := w.2.2
           first
           | (have := tk_pos w (by omega); omega)
           | (rw [← eL] at w1 w2 w3
              first
              | omega
              | (have e9 : sg ch L ≠ [] := fun q => by rw [q] at w2; exact absurd w2 (Nat.lt_irrefl 0)
                 rw [if_neg e9] at k3
                 omega)))
      · refine g_iload_n hC dX10_change_35 rfl ?_
        refine g_if_lt (tgt := 97) hC dX10_change_36 (by decide) ⟨by omega, by omega⟩ (fun h36 => ?_) (fun h36 => ?_)
        · first
          | exact J97 (by omega) (Or.inl (by omega)) _
          | (refine J97 (by omega) (Or.inr ⟨by omega, fun w => ?_⟩) _
             have w1 := w.1
             have w2 := w.2.1
             have w3 := w.2.2
             first
             | (have := tk_pos w (by omega); omega)
             | (rw [← eL] at w1 w2 w3
                first
                | omega
                | (have e9 : sg ch L ≠ [] := fun q => by rw [q] at w2; exact absurd w2 (Nat.lt_irrefl 0)
                   rw [if_neg e9] at k3
                   omega)))
        · obtain ⟨L, eL⟩ : ∃ L, L = ch.length - 1 := ⟨_, rfl⟩
          have hL : L < ch.length := by omega
          obtain ⟨k1, k2, k3, k4⟩ := hvC.2 L hL
          have eT : (mem0 m 18 - 1).toNat = L := by omega
          have b1 := (kC.2 L).2 hL
          have b2 := (kC.2 L).1
          have u1 : mem0 (B 19) (mem0 m 18 - 1).toNat = nu ch L := by rw [eT]; exact k1
          have u2 : mem0 (B 20) (mem0 m 18 - 1).toNat = (sg ch L).length := by rw [eT]; exact k2
          have k30 : (if sg ch L = [] then (1 : Int) else 0) = 0 ∨ (if sg ch L = [] then (1 : Int) else 0) = 1 := by split <;> omega
          have u3 : mem0 (B 22) (mem0 m 18 - 1).toNat = mem0 (B 22) L := by rw [eT]
          refine g_aload_n hC dX10_change_39 rfl ?_
          refine g_getR hC fdX10_53 (by assumption) (by assumption) dX10_change_40 ?_
          refine g_iload_n hC dX10_change_43 rfl ?_
          refine g_iald hC (by assumption) (by omega) (by omega) (by decide) dX10_change_44 ?_
          refine g_iload_n hC dX10_change_45 rfl ?_
          refine g_icmp_ne (tgt := 97) hC dX10_change_46 (by decide) ⟨by omega, by omega⟩ ⟨by omega, by omega⟩ (fun h46 => ?_) (fun h46 => ?_)
          · first
            | exact J97 (by omega) (Or.inl (by omega)) _
            | (refine J97 (by omega) (Or.inr ⟨by omega, fun w => ?_⟩) _
               have w1 := w.1
               have w2 := w.2.1
               have w3 := w.2.2
               first
               | (have := tk_pos w (by omega); omega)
               | (rw [← eL] at w1 w2 w3
                  first
                  | omega
                  | (have e9 : sg ch L ≠ [] := fun q => by rw [q] at w2; exact absurd w2 (Nat.lt_irrefl 0)
                     rw [if_neg e9] at k3
                     omega)))
          · refine g_aload_n hC dX10_change_49 rfl ?_
            refine g_getR hC fdX10_62 (by assumption) (by assumption) dX10_change_50 ?_
            refine g_iload_n hC dX10_change_53 rfl ?_
            refine g_zald hC (by assumption) (by omega) (by omega) (by decide) dX10_change_54 ?_
            refine g_if_ne (tgt := 97) hC dX10_change_55 (by decide) ⟨by omega, by omega⟩ (fun h55 => ?_) (fun h55 => ?_)
            · first
              | exact J97 (by omega) (Or.inl (by omega)) _
              | (refine J97 (by omega) (Or.inr ⟨by omega, fun w => ?_⟩) _
                 have w1 := w.1
                 have w2 := w.2.1
                 have w3 := w.2.2
                 first
                 | (have := tk_pos w (by omega); omega)
                 | (rw [← eL] at w1 w2 w3
                    first
                    | omega
                    | (have e9 : sg ch L ≠ [] := fun q => by rw [q] at w2; exact absurd w2 (Nat.lt_irrefl 0)
                       rw [if_neg e9] at k3
                       omega)))
            · refine g_aload_n hC dX10_change_58 rfl ?_
              refine g_getR hC fdX10_56 (by assumption) (by assumption) dX10_change_59 ?_
              refine g_iload_n hC dX10_change_62 rfl ?_
              refine g_iald hC (by assumption) (by omega) (by omega) (by decide) dX10_change_63 ?_
              refine g_bipush hC dX10_change_64 (by decide +kernel) ?_
              refine g_icmp_ge (tgt := 97) hC dX10_change_66 (by decide) ⟨by omega, by omega⟩ ⟨by omega, by omega⟩ (fun h66 => ?_) (fun h66 => ?_)
              · first
                | exact J97 (by omega) (Or.inl (by omega)) _
                | (refine J97 (by omega) (Or.inr ⟨by omega, fun w => ?_⟩) _
                   have w1 := w.1
                   have w2 := w.2.1
                   have w3 := w.2.2
                   first
                   | (have := tk_pos w (by omega); omega)
                   | (rw [← eL] at w1 w2 w3
                      first
                      | omega
                      | (have e9 : sg ch L ≠ [] := fun q => by rw [q] at w2; exact absurd w2 (Nat.lt_irrefl 0)
                         rw [if_neg e9] at k3
                         omega)))
              · have sn : sg ch L ≠ [] := fun q => by rw [if_pos q] at k3; omega
                have e5 : (10 * (mem0 m 18 - 1) + mem0 (B 20) (mem0 m 18 - 1).toNat).toNat = 10 * L + (sg ch L).length := by omega
                refine g_aload_n hC dX10_change_69 rfl ?_
                refine g_getR hC fdX10_59 (by assumption) (by assumption) dX10_change_70 ?_
                refine g_bipush hC dX10_change_73 (by decide +kernel) ?_
                refine g_iload_n hC dX10_change_75 rfl ?_
                refine g_imul hC dX10_change_76 ?_
                refine g_aload_n hC dX10_change_77 rfl ?_
                refine g_getR hC fdX10_56 (by assumption) (by assumption) dX10_change_78 ?_
                refine g_iload_n hC dX10_change_81 rfl ?_
                refine g_iald hC (by assumption) (by omega) (by omega) (by decide) dX10_change_82 ?_
                refine g_iadd hC dX10_change_83 ?_
                refine g_iload_n hC dX10_change_84 rfl ?_
                refine g_iast hC (by assumption) (by omega) (by omega) (by decide) dX10_change_85 ?_
                obtain ⟨mem2, e2⟩ : ∃ q, q = gup mem0 (B 21) (10 * (mem0 m 18 - 1) + mem0 (B 20) (mem0 m 18 - 1).toNat).toNat c := ⟨_, rfl⟩
                rw [← e2]
                have t2 : mem2 (B 20) (mem0 m 18 - 1).toNat = (sg ch L).length := by rw [e2, gup_a _ _ _ _ (by simp [hBe])]; exact u2
                refine g_aload_n hC dX10_change_86 rfl ?_
                refine g_getR hC fdX10_56 (by assumption) (by assumption) dX10_change_87 ?_
                refine g_iload_n hC dX10_change_90 rfl ?_
                refine g_dup2 hC dX10_change_91 rfl rfl ?_
                refine g_iald hC (by assumption) (by omega) (by omega) (by decide) dX10_change_92 ?_
                rw [t2]
                refine g_iconst hC dX10_change_93 ?_
                refine g_iadd hC dX10_change_94 ?_
                refine g_iast hC (by assumption) (by omega) (by omega) (by decide) dX10_change_95 ?_
                refine g_vret hC hI rfl dX10_change_96 (Nat.le_of_ble_eq_true rfl) (Nat.le_of_ble_eq_true rfl) ⟨rfl, rfl, rfl, ?_⟩
                obtain ⟨v1, v2⟩ := vC_add (c := c) hBe hBm hmB hvC kC hL sn (by omega)
                have tkh : tk ch n := by
                  refine ⟨?_, ?_, ?_⟩
                  · rw [← eL]; omega
                  · rw [← eL]
                    rcases Nat.eq_zero_or_pos (sg ch L).length with q | q
                    · exact absurd (List.length_eq_zero_iff.mp q) sn
                    · exact q
                  · rw [← eL]; omega
                have eA : lnAdd ch (ch.length - 1) c = ch.set L (nu ch L, sg ch L ++ [c]) := by rw [lnAdd, ← eL, if_pos ⟨hL, by omega⟩]
                rw [e2, e5, eT]
                refine ⟨lnAdd ch (ch.length - 1) c, ⟨fun w => absurd ⟨by omega, by omega⟩ w, fun w => absurd (Or.inr ⟨by omega, by omega⟩) w, fun _ w => absurd w (by omega), fun _ _ => ⟨fun _ => rfl, fun w => absurd tkh w, fun w => absurd tkh w⟩⟩, ?_⟩
                rw [eA]
                exact ⟨⟨hvL.st v2 (by decide), hvM.st v2 (by decide), hvS.st v2 (by decide), v1, hvD.st v2 (by decide), hvO.st v2 (by decide), hvI.st v2 (by decide), hvT.st v2 (by decide)⟩, chA.trans hc0.2 v2.2⟩
    · refine g_iload_n hC dX10_change_16 rfl ?_
      refine g_SP hC (kX10_isSign (gl X) (gD X) (gac X) c i_c) csX10_isSign lkX10_120 rfl rfl (Nat.le_of_ble_eq_true rfl) (hI.fit (Nat.le_of_ble_eq_true rfl) (Nat.le_of_ble_eq_true rfl) (Nat.le_of_ble_eq_true rfl)) dX10_change_17 (fun x17 hx17 => ?_)
      refine g_if_ne (tgt := 24) hC dX10_change_20 (by decide) ⟨by omega, by omega⟩ (fun h20 => ?_) (fun h20 => ?_)
      · refine g_aload_n hC dX10_change_24 rfl ?_
        refine g_getI hC fdX10_178 (by assumption) dX10_change_25 ?_
        refine g_iconst hC dX10_change_28 ?_
        refine g_isub hC dX10_change_29 ?_
        refine g_istore_n hC 3 rfl dX10_change_30 (Nat.le_of_ble_eq_true rfl) ?_
        dsimp only [List.set]
        refine g_iload_n hC dX10_change_31 rfl ?_
        refine g_if_eq (tgt := 97) hC dX10_change_32 (by decide) ⟨by omega, by omega⟩ (fun h32 => ?_) (fun h32 => ?_)
        · first
          | exact J97 (by omega) (Or.inl (by omega)) _
          | (refine J97 (by omega) (Or.inr ⟨by omega, fun w => ?_⟩) _
             have w1 := w.1
             have w2 := w.2.1
             have w3 := w.2.2
             first
             | (have := tk_pos w (by omega); omega)
             | (rw [← eL] at w1 w2 w3
                first
                | omega
                | (have e9 : sg ch L ≠ [] := fun q => by rw [q] at w2; exact absurd w2 (Nat.lt_irrefl 0)
                   rw [if_neg e9] at k3
                   omega)))
        · refine g_iload_n hC dX10_change_35 rfl ?_
          refine g_if_lt (tgt := 97) hC dX10_change_36 (by decide) ⟨by omega, by omega⟩ (fun h36 => ?_) (fun h36 => ?_)
          · first
            | exact J97 (by omega) (Or.inl (by omega)) _
            | (refine J97 (by omega) (Or.inr ⟨by omega, fun w => ?_⟩) _
               have w1 := w.1
               have w2 := w.2.1
               have w3 := w.2.2
               first
               | (have := tk_pos w (by omega); omega)
               | (rw [← eL] at w1 w2 w3
                  first
                  | omega
                  | (have e9 : sg ch L ≠ [] := fun q => by rw [q] at w2; exact absurd w2 (Nat.lt_irrefl 0)
                     rw [if_neg e9] at k3
                     omega)))
          · obtain ⟨L, eL⟩ : ∃ L, L = ch.length - 1 := ⟨_, rfl⟩
            have hL : L < ch.length := by omega
            obtain ⟨k1, k2, k3, k4⟩ := hvC.2 L hL
            have eT : (mem0 m 18 - 1).toNat = L := by omega
            have b1 := (kC.2 L).2 hL
            have b2 := (kC.2 L).1
            have u1 : mem0 (B 19) (mem0 m 18 - 1).toNat = nu ch L := by rw [eT]; exact k1
            have u2 : mem0 (B 20) (mem0 m 18 - 1).toNat = (sg ch L).length := by rw [eT]; exact k2
            have k30 : (if sg ch L = [] then (1 : Int) else 0) = 0 ∨ (if sg ch L = [] then (1 : Int) else 0) = 1 := by split <;> omega
            have u3 : mem0 (B 22) (mem0 m 18 - 1).toNat = mem0 (B 22) L := by rw [eT]
            refine g_aload_n hC dX10_change_39 rfl ?_
            refine g_getR hC fdX10_53 (by assumption) (by assumption) dX10_change_40 ?_
            refine g_iload_n hC dX10_change_43 rfl ?_
            refine g_iald hC (by assumption) (by omega) (by omega) (by decide) dX10_change_44 ?_
            refine g_iload_n hC dX10_change_45 rfl ?_
            refine g_icmp_ne (tgt := 97) hC dX10_change_46 (by decide) ⟨by omega, by omega⟩ ⟨by omega, by omega⟩ (fun h46 => ?_) (fun h46 => ?_)
            · first
              | exact J97 (by omega) (Or.inl (by omega)) _
              | (refine J97 (by omega) (Or.inr ⟨by omega, fun w => ?_⟩) _
                 have w1 := w.1
                 have w2 := w.2.1
                 have w3 := w.2.2
                 first
                 | (have := tk_pos w (by omega); omega)
                 | (rw [← eL] at w1 w2 w3
                    first
                    | omega
                    | (have e9 : sg ch L ≠ [] := fun q => by rw [q] at w2; exact absurd w2 (Nat.lt_irrefl 0)
                       rw [if_neg e9] at k3
                       omega)))
            · refine g_aload_n hC dX10_change_49 rfl ?_
              refine g_getR hC fdX10_62 (by assumption) (by assumption) dX10_change_50 ?_
              refine g_iload_n hC dX10_change_53 rfl ?_
              refine g_zald hC (by assumption) (by omega) (by omega) (by decide) dX10_change_54 ?_
              refine g_if_ne (tgt := 97) hC dX10_change_55 (by decide) ⟨by omega, by omega⟩ (fun h55 => ?_) (fun h55 => ?_)
              · first
                | exact J97 (by omega) (Or.inl (by omega)) _
                | (refine J97 (by omega) (Or.inr ⟨by omega, fun w => ?_⟩) _
                   have w1 := w.1
                   have w2 := w.2.1
                   have w3 := w.2.2
                   first
                   | (have := tk_pos w (by omega); omega)
                   | (rw [← eL] at w1 w2 w3
                      first
                      | omega
                      | (have e9 : sg ch L ≠ [] := fun q => by rw [q] at w2; exact absurd w2 (Nat.lt_irrefl 0)
                         rw [if_neg e9] at k3
                         omega)))
              · refine g_aload_n hC dX10_change_58 rfl ?_
                refine g_getR hC fdX10_56 (by assumption) (by assumption) dX10_change_59 ?_
                refine g_iload_n hC dX10_change_62 rfl ?_
                refine g_iald hC (by assumption) (by omega) (by omega) (by decide) dX10_change_63 ?_
                refine g_bipush hC dX10_change_64 (by decide +kernel) ?_
                refine g_icmp_ge (tgt := 97) hC dX10_change_66 (by decide) ⟨by omega, by omega⟩ ⟨by omega, by omega⟩ (fun h66 => ?_) (fun h66 => ?_)
                · first
                  | exact J97 (by omega) (Or.inl (by omega)) _
                  | (refine J97 (by omega) (Or.inr ⟨by omega, fun w => ?_⟩) _
                     have w1 := w.1
                     have w2 := w.2.1
                     have w3 := w.2.2
                     first
                     | (have := tk_pos w (by omega); omega)
                     | (rw [← eL] at w1 w2 w3
                        first
                        | omega
                        | (have e9 : sg ch L ≠ [] := fun q => by rw [q] at w2; exact absurd w2 (Nat.lt_irrefl 0)
                           rw [if_neg e9] at k3
                           omega)))
                · have sn : sg ch L ≠ [] := fun q => by rw [if_pos q] at k3; omega
                  have e5 : (10 * (mem0 m 18 - 1) + mem0 (B 20) (mem0 m 18 - 1).toNat).toNat = 10 * L + (sg ch L).length := by omega
                  refine g_aload_n hC dX10_change_69 rfl ?_
                  refine g_getR hC fdX10_59 (by assumption) (by assumption) dX10_change_70 ?_
                  refine g_bipush hC dX10_change_73 (by decide +kernel) ?_
                  refine g_iload_n hC dX10_change_75 rfl ?_
                  refine g_imul hC dX10_change_76 ?_
                  refine g_aload_n hC dX10_change_77 rfl ?_
                  refine g_getR hC fdX10_56 (by assumption) (by assumption) dX10_change_78 ?_
                  refine g_iload_n hC dX10_change_81 rfl ?_
                  refine g_iald hC (by assumption) (by omega) (by omega) (by decide) dX10_change_82 ?_
                  refine g_iadd hC dX10_change_83 ?_
                  refine g_iload_n hC dX10_change_84 rfl ?_
                  refine g_iast hC (by assumption) (by omega) (by omega) (by decide) dX10_change_85 ?_
                  obtain ⟨mem2, e2⟩ : ∃ q, q = gup mem0 (B 21) (10 * (mem0 m 18 - 1) + mem0 (B 20) (mem0 m 18 - 1).toNat).toNat c := ⟨_, rfl⟩
                  rw [← e2]
                  have t2 : mem2 (B 20) (mem0 m 18 - 1).toNat = (sg ch L).length := by rw [e2, gup_a _ _ _ _ (by simp [hBe])]; exact u2
                  refine g_aload_n hC dX10_change_86 rfl ?_
                  refine g_getR hC fdX10_56 (by assumption) (by assumption) dX10_change_87 ?_
                  refine g_iload_n hC dX10_change_90 rfl ?_
                  refine g_dup2 hC dX10_change_91 rfl rfl ?_
                  refine g_iald hC (by assumption) (by omega) (by omega) (by decide) dX10_change_92 ?_
                  rw [t2]
                  refine g_iconst hC dX10_change_93 ?_
                  refine g_iadd hC dX10_change_94 ?_
                  refine g_iast hC (by assumption) (by omega) (by omega) (by decide) dX10_change_95 ?_
                  refine g_vret hC hI rfl dX10_change_96 (Nat.le_of_ble_eq_true rfl) (Nat.le_of_ble_eq_true rfl) ⟨rfl, rfl, rfl, ?_⟩
                  obtain ⟨v1, v2⟩ := vC_add (c := c) hBe hBm hmB hvC kC hL sn (by omega)
                  have tkh : tk ch n := by
                    refine ⟨?_, ?_, ?_⟩
                    · rw [← eL]; omega
                    · rw [← eL]
                      rcases Nat.eq_zero_or_pos (sg ch L).length with q | q
                      · exact absurd (List.length_eq_zero_iff.mp q) sn
                      · exact q
                    · rw [← eL]; omega
                  have eA : lnAdd ch (ch.length - 1) c = ch.set L (nu ch L, sg ch L ++ [c]) := by rw [lnAdd, ← eL, if_pos ⟨hL, by omega⟩]
                  rw [e2, e5, eT]
                  refine ⟨lnAdd ch (ch.length - 1) c, ⟨fun w => absurd ⟨by omega, by omega⟩ w, fun w => absurd (Or.inr ⟨by omega, by omega⟩) w, fun _ w => absurd w (by omega), fun _ _ => ⟨fun _ => rfl, fun w => absurd tkh w, fun w => absurd tkh w⟩⟩, ?_⟩
                  rw [eA]
                  exact ⟨⟨hvL.st v2 (by decide), hvM.st v2 (by decide), hvS.st v2 (by decide), v1, hvD.st v2 (by decide), hvO.st v2 (by decide), hvI.st v2 (by decide), hvT.st v2 (by decide)⟩, chA.trans hc0.2 v2.2⟩
      · refine g_vret hC hI rfl dX10_change_23 (Nat.le_of_ble_eq_true rfl) (Nat.le_of_ble_eq_true rfl) ⟨rfl, rfl, rfl, ?_⟩
        refine ⟨ch, ⟨fun _ => rfl, fun _ => rfl, fun w1 w2 => ?_, fun w1 w2 => ?_⟩, ⟨hV9, hc0.2⟩⟩
        · exfalso; omega
        · exfalso; omega
set_option maxHeartbeats 4000000 in
set_option maxRecDepth 100000 in
theorem kX10_refuses (lc : Launch) (D : va_G) (ac : Nat → ClassId) {sh : Nat → Nat × Nat} {rf : Nat → Nat → Option Nat} {mem : Nat → Nat → Int} (m : Nat) (B : Nat → Nat) (K : Nat) (xs ch : Lns) (hM : MO sh rf m B) (hl : lnM B mem K xs) (ok : okL xs) (hK : 1 ≤ K ∧ K ≤ 80) (hvC : vC m B mem ch) (kC : okC ch) : gMet lc D ac mX10_refuses 1 [.ref m, .int (iI K)] 0 0 sh rf mem (pP sh rf mem (fun r => r = rfS xs ch 0 xs.length 0)) := by
  refine gMet.mk (by decide) (by intro v hv; simp at hv; (try rcases hv with rfl | rfl) <;> rfl) (Nat.le_of_ble_eq_true rfl) (fun X hC hI => ?_)
  show gG X sh rf mem 0 0 0 [some (.ref m), some (.int (iI K)), none, none, none, none] []
  have hM9 := hM
  obtain ⟨mo, R4, S4, R5, S5, R6, S6, R7, S7, R8, S8, R9, S9, R10, S10, R11, S11, R12, S12, R13, S13, R14, S14, R15, S15, R16, S16, R17, S17, R19, S19, R20, S20, R21, S21, R22, S22, R25, S25, R26, S26, R27, S27, R30, S30, R31, S31, hBe, hBm, hmB⟩ := hM
  have l18 := hvC.1
  have kc := kC.1
  have l7 : mem (B 7) (K : Int).toNat = xs.length := hl.1
  have kx := ok.1
  have J12 : ∀ (t k : Nat) (z bf : Int) o5, k ≤ ch.length → ch.length < k + t → -(k : Int) ≤ z ∧ z ≤ 30 → 0 ≤ bf ∧ bf ≤ 9999 → rfS xs ch 0 xs.length 0 = rfS xs (ch.drop k) k z bf → gG X sh rf mem 0 0 12 [some (.ref m), some (.int (iI K)), some (.int (iI bf)), some (.int (iI z)), some (.int (iI k)), o5] [] := by
    intro t
    induction t with
    | zero => intro k z bf o5 c1 c2; omega
    | succ t ih =>
      intro k z bf o5 c1 c2 c3 c4 c5
      refine g_iload hC dX10_refuses_12 rfl ?_
      refine g_aload_n hC dX10_refuses_14 rfl ?_
      refine g_getI hC fdX10_178 (by assumption) dX10_refuses_15 ?_
      refine g_icmp_ge (tgt := 125) hC dX10_refuses_18 (by decide) ⟨by omega, by omega⟩ ⟨by omega, by omega⟩ (fun h18 => ?_) (fun h18 => ?_)
      · refine g_iconst hC dX10_refuses_125 ?_
        refine g_iret hC hI rfl dX10_refuses_126 (Nat.le_of_ble_eq_true rfl) (Nat.le_of_ble_eq_true rfl) ⟨rfl, rfl, rfl, _, rfl, ?_⟩
        rw [c5, List.drop_eq_nil_of_le (by omega)]
        rfl
      · have hk : k < ch.length := by omega
        obtain ⟨k1, k2, k3, k4⟩ := hvC.2 k hk
        have nk : mem (B 19) (k : Int).toNat = nu ch k := k1
        have dk : mem (B 22) (k : Int).toNat = if sg ch k = [] then 1 else 0 := k3
        have nb := (kC.2 k).2 hk
        refine g_aload_n hC dX10_refuses_21 rfl ?_
        refine g_iload_n hC dX10_refuses_22 rfl ?_
        refine g_aload_n hC dX10_refuses_23 rfl ?_
        refine g_iload_n hC dX10_refuses_24 rfl ?_
        refine g_aload_n hC dX10_refuses_25 rfl ?_
        refine g_getR hC fdX10_53 (by assumption) (by assumption) dX10_refuses_26 ?_
        refine g_iload hC dX10_refuses_29 rfl ?_
        refine g_iald hC (by assumption) (by omega) (by omega) (by decide) dX10_refuses_31 ?_
        rw [nk]
        refine g_VP hC (kX10_placeOf (gl X) (gD X) (gac X) m B K xs (nu ch k) hM9 hl ok hK ⟨by omega, by omega⟩) cvX10_placeOf lkX10_123 (by assumption) rfl rfl (Nat.le_of_ble_eq_true rfl) (hI.fit (Nat.le_of_ble_eq_true rfl) (Nat.le_of_ble_eq_true rfl) (Nat.le_of_ble_eq_true rfl)) dX10_refuses_32 (fun x32 hx32 => ?_)
        subst hx32
        refine g_aload_n hC dX10_refuses_35 rfl ?_
        refine g_getR hC fdX10_53 (by assumption) (by assumption) dX10_refuses_36 ?_
        refine g_iload hC dX10_refuses_39 rfl ?_
        refine g_iald hC (by assumption) (by omega) (by omega) (by decide) dX10_refuses_41 ?_
        rw [nk]
        refine g_VP hC (kX10_isAt (gl X) (gD X) (gac X) m B K xs (plc xs (nu ch k)) (nu ch k) hM9 hl ok hK ⟨by omega, by omega⟩ (plc_le _ _)) cvX10_isAt lkX10_126 (by assumption) rfl rfl (Nat.le_of_ble_eq_true rfl) (hI.fit (Nat.le_of_ble_eq_true rfl) (Nat.le_of_ble_eq_true rfl) (Nat.le_of_ble_eq_true rfl)) dX10_refuses_42 (fun x42 hx42 => ?_)
        have hth : (x42 = 1 ∧ nu xs (plc xs (nu ch k)) = nu ch k) ∨ (x42 = 0 ∧ ¬ nu xs (plc xs (nu ch k)) = nu ch k) := by
          rcases hx42 with ⟨w1, w2, w3⟩ | ⟨w1, w2⟩
          · exact Or.inl ⟨w1, w3⟩
          · refine Or.inr ⟨w1, fun q => w2 ⟨?_, q⟩⟩
            apply Classical.byContradiction
            intro u
            rw [nu_out (by omega)] at q
            omega
        have hdl : (mem (B 22) (k : Int).toNat = 1 ∧ sg ch k = []) ∨ (mem (B 22) (k : Int).toNat = 0 ∧ ¬ sg ch k = []) := by
          rw [dk]
          by_cases q : sg ch k = []
          · rw [if_pos q]; exact Or.inl ⟨rfl, q⟩
          · rw [if_neg q]; exact Or.inr ⟨rfl, q⟩
        clear dk k3
        rcases hdl with ⟨d1, dl⟩ | ⟨d1, dl⟩ <;> rcases hth with ⟨t1, th⟩ | ⟨t1, th⟩
        · refine g_istore hC dX10_refuses_45 (Nat.le_of_ble_eq_true rfl) ?_
          dsimp only [List.set]
          refine g_iload_n hC dX10_refuses_47 rfl ?_
          refine g_aload_n hC dX10_refuses_48 rfl ?_
          refine g_getR hC fdX10_62 (by assumption) (by assumption) dX10_refuses_49 ?_
          refine g_iload hC dX10_refuses_52 rfl ?_
          refine g_zald hC (by assumption) (by omega) (by omega) (by decide) dX10_refuses_54 ?_
          refine g_if_eq (tgt := 62) hC dX10_refuses_55 (by decide) ⟨by omega, by omega⟩ (fun h55 => ?_) (fun h55 => ?_)
          · exfalso; omega
          · refine g_iconst hC dX10_refuses_58 ?_
            refine g_goto (tgt := 72) hC dX10_refuses_59 (by decide) ?_
            refine g_iadd hC dX10_refuses_72 ?_
            refine g_istore_n hC 3 rfl dX10_refuses_73 (Nat.le_of_ble_eq_true rfl) ?_
            dsimp only [List.set]
            refine g_aload_n hC dX10_refuses_74 rfl ?_
            refine g_getR hC fdX10_53 (by assumption) (by assumption) dX10_refuses_75 ?_
            refine g_iload hC dX10_refuses_78 rfl ?_
            refine g_iald hC (by assumption) (by omega) (by omega) (by decide) dX10_refuses_80 ?_
            refine g_iload_n hC dX10_refuses_81 rfl ?_
            refine g_icmp_le (tgt := 106) hC dX10_refuses_82 (by decide) ⟨by omega, by omega⟩ ⟨by omega, by omega⟩ (fun h82 => ?_) (fun h82 => ?_)
            · refine g_iload hC dX10_refuses_106 rfl ?_
              refine g_iconst hC dX10_refuses_108 ?_
              refine g_iadd hC dX10_refuses_109 ?_
              refine g_iret hC hI rfl dX10_refuses_110 (Nat.le_of_ble_eq_true rfl) (Nat.le_of_ble_eq_true rfl) ⟨rfl, rfl, rfl, _, rfl, ?_⟩
              rw [c5]
              first
              | (rw [rfS_dn hk dl th]; done)
              | (rw [rfS_d hk dl th, if_pos (by omega)]; done)
              | (rw [rfS_t hk dl th, if_pos (by omega)]; done)
              | (rw [rfS_n hk dl th, if_pos (by omega)]; done)
              | (exfalso; omega)
            · refine g_aload_n hC dX10_refuses_85 rfl ?_
              refine g_getR hC fdX10_62 (by assumption) (by assumption) dX10_refuses_86 ?_
              refine g_iload hC dX10_refuses_89 rfl ?_
              refine g_zald hC (by assumption) (by omega) (by omega) (by decide) dX10_refuses_91 ?_
              refine g_if_eq (tgt := 100) hC dX10_refuses_92 (by decide) ⟨by omega, by omega⟩ (fun h92 => ?_) (fun h92 => ?_)
              · exfalso; omega
              · refine g_iload hC dX10_refuses_95 rfl ?_
                refine g_if_eq (tgt := 106) hC dX10_refuses_97 (by decide) ⟨by omega, by omega⟩ (fun h97 => ?_) (fun h97 => ?_)
                · exfalso; omega
                · refine g_iload_n hC dX10_refuses_100 rfl ?_
                  refine g_bipush hC dX10_refuses_101 (by decide +kernel) ?_
                  refine g_icmp_le (tgt := 111) hC dX10_refuses_103 (by decide) ⟨by omega, by omega⟩ ⟨by omega, by omega⟩ (fun h103 => ?_) (fun h103 => ?_)
                  · refine g_aload_n hC dX10_refuses_111 rfl ?_
                    refine g_getR hC fdX10_53 (by assumption) (by assumption) dX10_refuses_112 ?_
                    refine g_iload hC dX10_refuses_115 rfl ?_
                    refine g_iald hC (by assumption) (by omega) (by omega) (by decide) dX10_refuses_117 ?_
                    refine g_istore_n hC 2 rfl dX10_refuses_118 (Nat.le_of_ble_eq_true rfl) ?_
                    dsimp only [List.set]
                    refine g_iinc hC dX10_refuses_119 rfl ?_
                    dsimp only [List.set]
                    refine g_goto (tgt := 12) hC dX10_refuses_122 (by decide) ?_
                    first
                    | exact J12 (ch.length + 1) 0 _ 0 _ (Nat.zero_le _) (by omega) (by omega) (by omega) (by rw [l7]; rfl)
                    | exact ih (k + 1) (z + -1) _ _ (by omega) (by omega) (by omega) (by omega) (by rw [c5, rfS_d hk dl th, if_neg (by omega), nk]; rfl)
                    | exact ih (k + 1) (z + 0) _ _ (by omega) (by omega) (by omega) (by omega) (by rw [c5, rfS_t hk dl th, if_neg (by omega), nk, Int.add_zero]; rfl)
                    | exact ih (k + 1) (z + 1) _ _ (by omega) (by omega) (by omega) (by omega) (by rw [c5, rfS_n hk dl th, if_neg (by omega), nk]; rfl)
                    | (exfalso; omega)
                  · refine g_iload hC dX10_refuses_106 rfl ?_
                    refine g_iconst hC dX10_refuses_108 ?_
                    refine g_iadd hC dX10_refuses_109 ?_
                    refine g_iret hC hI rfl dX10_refuses_110 (Nat.le_of_ble_eq_true rfl) (Nat.le_of_ble_eq_true rfl) ⟨rfl, rfl, rfl, _, rfl, ?_⟩
                    rw [c5]
                    first
                    | (rw [rfS_dn hk dl th]; done)
                    | (rw [rfS_d hk dl th, if_pos (by omega)]; done)
                    | (rw [rfS_t hk dl th, if_pos (by omega)]; done)
                    | (rw [rfS_n hk dl th, if_pos (by omega)]; done)
                    | (exfalso; omega)
        · refine g_istore hC dX10_refuses_45 (Nat.le_of_ble_eq_true rfl) ?_
          dsimp only [List.set]
          refine g_iload_n hC dX10_refuses_47 rfl ?_
          refine g_aload_n hC dX10_refuses_48 rfl ?_
          refine g_getR hC fdX10_62 (by assumption) (by assumption) dX10_refuses_49 ?_
          refine g_iload hC dX10_refuses_52 rfl ?_
          refine g_zald hC (by assumption) (by omega) (by omega) (by decide) dX10_refuses_54 ?_
          refine g_if_eq (tgt := 62) hC dX10_refuses_55 (by decide) ⟨by omega, by omega⟩ (fun h55 => ?_) (fun h55 => ?_)
          · exfalso; omega
          · refine g_iconst hC dX10_refuses_58 ?_
            refine g_goto (tgt := 72) hC dX10_refuses_59 (by decide) ?_
            refine g_iadd hC dX10_refuses_72 ?_
            refine g_istore_n hC 3 rfl dX10_refuses_73 (Nat.le_of_ble_eq_true rfl) ?_
            dsimp only [List.set]
            refine g_aload_n hC dX10_refuses_74 rfl ?_
            refine g_getR hC fdX10_53 (by assumption) (by assumption) dX10_refuses_75 ?_
            refine g_iload hC dX10_refuses_78 rfl ?_
            refine g_iald hC (by assumption) (by omega) (by omega) (by decide) dX10_refuses_80 ?_
            refine g_iload_n hC dX10_refuses_81 rfl ?_
            refine g_icmp_le (tgt := 106) hC dX10_refuses_82 (by decide) ⟨by omega, by omega⟩ ⟨by omega, by omega⟩ (fun h82 => ?_) (fun h82 => ?_)
            · refine g_iload hC dX10_refuses_106 rfl ?_
              refine g_iconst hC dX10_refuses_108 ?_
              refine g_iadd hC dX10_refuses_109 ?_
              refine g_iret hC hI rfl dX10_refuses_110 (Nat.le_of_ble_eq_true rfl) (Nat.le_of_ble_eq_true rfl) ⟨rfl, rfl, rfl, _, rfl, ?_⟩
              rw [c5]
              first
              | (rw [rfS_dn hk dl th]; done)
              | (rw [rfS_d hk dl th, if_pos (by omega)]; done)
              | (rw [rfS_t hk dl th, if_pos (by omega)]; done)
              | (rw [rfS_n hk dl th, if_pos (by omega)]; done)
              | (exfalso; omega)
            · refine g_aload_n hC dX10_refuses_85 rfl ?_
              refine g_getR hC fdX10_62 (by assumption) (by assumption) dX10_refuses_86 ?_
              refine g_iload hC dX10_refuses_89 rfl ?_
              refine g_zald hC (by assumption) (by omega) (by omega) (by decide) dX10_refuses_91 ?_
              refine g_if_eq (tgt := 100) hC dX10_refuses_92 (by decide) ⟨by omega, by omega⟩ (fun h92 => ?_) (fun h92 => ?_)
              · exfalso; omega
              · refine g_iload hC dX10_refuses_95 rfl ?_
                refine g_if_eq (tgt := 106) hC dX10_refuses_97 (by decide) ⟨by omega, by omega⟩ (fun h97 => ?_) (fun h97 => ?_)
                · refine g_iload hC dX10_refuses_106 rfl ?_
                  refine g_iconst hC dX10_refuses_108 ?_
                  refine g_iadd hC dX10_refuses_109 ?_
                  refine g_iret hC hI rfl dX10_refuses_110 (Nat.le_of_ble_eq_true rfl) (Nat.le_of_ble_eq_true rfl) ⟨rfl, rfl, rfl, _, rfl, ?_⟩
                  rw [c5]
                  first
                  | (rw [rfS_dn hk dl th]; done)
                  | (rw [rfS_d hk dl th, if_pos (by omega)]; done)
                  | (rw [rfS_t hk dl th, if_pos (by omega)]; done)
                  | (rw [rfS_n hk dl th, if_pos (by omega)]; done)
                  | (exfalso; omega)
                · exfalso; omega
        · refine g_istore hC dX10_refuses_45 (Nat.le_of_ble_eq_true rfl) ?_
          dsimp only [List.set]
          refine g_iload_n hC dX10_refuses_47 rfl ?_
          refine g_aload_n hC dX10_refuses_48 rfl ?_
          refine g_getR hC fdX10_62 (by assumption) (by assumption) dX10_refuses_49 ?_
          refine g_iload hC dX10_refuses_52 rfl ?_
          refine g_zald hC (by assumption) (by omega) (by omega) (by decide) dX10_refuses_54 ?_
          refine g_if_eq (tgt := 62) hC dX10_refuses_55 (by decide) ⟨by omega, by omega⟩ (fun h55 => ?_) (fun h55 => ?_)
          · refine g_iload hC dX10_refuses_62 rfl ?_
            refine g_if_eq (tgt := 71) hC dX10_refuses_64 (by decide) ⟨by omega, by omega⟩ (fun h64 => ?_) (fun h64 => ?_)
            · exfalso; omega
            · refine g_iconst hC dX10_refuses_67 ?_
              refine g_goto (tgt := 72) hC dX10_refuses_68 (by decide) ?_
              refine g_iadd hC dX10_refuses_72 ?_
              refine g_istore_n hC 3 rfl dX10_refuses_73 (Nat.le_of_ble_eq_true rfl) ?_
              dsimp only [List.set]
              refine g_aload_n hC dX10_refuses_74 rfl ?_
              refine g_getR hC fdX10_53 (by assumption) (by assumption) dX10_refuses_75 ?_
              refine g_iload hC dX10_refuses_78 rfl ?_
              refine g_iald hC (by assumption) (by omega) (by omega) (by decide) dX10_refuses_80 ?_
              refine g_iload_n hC dX10_refuses_81 rfl ?_
              refine g_icmp_le (tgt := 106) hC dX10_refuses_82 (by decide) ⟨by omega, by omega⟩ ⟨by omega, by omega⟩ (fun h82 => ?_) (fun h82 => ?_)
              · refine g_iload hC dX10_refuses_106 rfl ?_
                refine g_iconst hC dX10_refuses_108 ?_
                refine g_iadd hC dX10_refuses_109 ?_
                refine g_iret hC hI rfl dX10_refuses_110 (Nat.le_of_ble_eq_true rfl) (Nat.le_of_ble_eq_true rfl) ⟨rfl, rfl, rfl, _, rfl, ?_⟩
                rw [c5]
                first
                | (rw [rfS_dn hk dl th]; done)
                | (rw [rfS_d hk dl th, if_pos (by omega)]; done)
                | (rw [rfS_t hk dl th, if_pos (by omega)]; done)
                | (rw [rfS_n hk dl th, if_pos (by omega)]; done)
                | (exfalso; omega)
              · refine g_aload_n hC dX10_refuses_85 rfl ?_
                refine g_getR hC fdX10_62 (by assumption) (by assumption) dX10_refuses_86 ?_
                refine g_iload hC dX10_refuses_89 rfl ?_
                refine g_zald hC (by assumption) (by omega) (by omega) (by decide) dX10_refuses_91 ?_
                refine g_if_eq (tgt := 100) hC dX10_refuses_92 (by decide) ⟨by omega, by omega⟩ (fun h92 => ?_) (fun h92 => ?_)
                · refine g_iload_n hC dX10_refuses_100 rfl ?_
                  refine g_bipush hC dX10_refuses_101 (by decide +kernel) ?_
                  refine g_icmp_le (tgt := 111) hC dX10_refuses_103 (by decide) ⟨by omega, by omega⟩ ⟨by omega, by omega⟩ (fun h103 => ?_) (fun h103 => ?_)
                  · refine g_aload_n hC dX10_refuses_111 rfl ?_
                    refine g_getR hC fdX10_53 (by assumption) (by assumption) dX10_refuses_112 ?_
                    refine g_iload hC dX10_refuses_115 rfl ?_
                    refine g_iald hC (by assumption) (by omega) (by omega) (by decide) dX10_refuses_117 ?_
                    refine g_istore_n hC 2 rfl dX10_refuses_118 (Nat.le_of_ble_eq_true rfl) ?_
                    dsimp only [List.set]
                    refine g_iinc hC dX10_refuses_119 rfl ?_
                    dsimp only [List.set]
                    refine g_goto (tgt := 12) hC dX10_refuses_122 (by decide) ?_
                    first
                    | exact J12 (ch.length + 1) 0 _ 0 _ (Nat.zero_le _) (by omega) (by omega) (by omega) (by rw [l7]; rfl)
                    | exact ih (k + 1) (z + -1) _ _ (by omega) (by omega) (by omega) (by omega) (by rw [c5, rfS_d hk dl th, if_neg (by omega), nk]; rfl)
                    | exact ih (k + 1) (z + 0) _ _ (by omega) (by omega) (by omega) (by omega) (by rw [c5, rfS_t hk dl th, if_neg (by omega), nk, Int.add_zero]; rfl)
                    | exact ih (k + 1) (z + 1) _ _ (by omega) (by omega) (by omega) (by omega) (by rw [c5, rfS_n hk dl th, if_neg (by omega), nk]; rfl)
                    | (exfalso; omega)
                  · refine g_iload hC dX10_refuses_106 rfl ?_
                    refine g_iconst hC dX10_refuses_108 ?_
                    refine g_iadd hC dX10_refuses_109 ?_
                    refine g_iret hC hI rfl dX10_refuses_110 (Nat.le_of_ble_eq_true rfl) (Nat.le_of_ble_eq_true rfl) ⟨rfl, rfl, rfl, _, rfl, ?_⟩
                    rw [c5]
                    first
                    | (rw [rfS_dn hk dl th]; done)
                    | (rw [rfS_d hk dl th, if_pos (by omega)]; done)
                    | (rw [rfS_t hk dl th, if_pos (by omega)]; done)
                    | (rw [rfS_n hk dl th, if_pos (by omega)]; done)
                    | (exfalso; omega)
                · exfalso; omega
          · exfalso; omega
        · refine g_istore hC dX10_refuses_45 (Nat.le_of_ble_eq_true rfl) ?_
          dsimp only [List.set]
          refine g_iload_n hC dX10_refuses_47 rfl ?_
          refine g_aload_n hC dX10_refuses_48 rfl ?_
          refine g_getR hC fdX10_62 (by assumption) (by assumption) dX10_refuses_49 ?_
          refine g_iload hC dX10_refuses_52 rfl ?_
          refine g_zald hC (by assumption) (by omega) (by omega) (by decide) dX10_refuses_54 ?_
          refine g_if_eq (tgt := 62) hC dX10_refuses_55 (by decide) ⟨by omega, by omega⟩ (fun h55 => ?_) (fun h55 => ?_)
          · refine g_iload hC dX10_refuses_62 rfl ?_
            refine g_if_eq (tgt := 71) hC dX10_refuses_64 (by decide) ⟨by omega, by omega⟩ (fun h64 => ?_) (fun h64 => ?_)
            · refine g_iconst hC dX10_refuses_71 ?_
              refine g_iadd hC dX10_refuses_72 ?_
              refine g_istore_n hC 3 rfl dX10_refuses_73 (Nat.le_of_ble_eq_true rfl) ?_
              dsimp only [List.set]
              refine g_aload_n hC dX10_refuses_74 rfl ?_
              refine g_getR hC fdX10_53 (by assumption) (by assumption) dX10_refuses_75 ?_
              refine g_iload hC dX10_refuses_78 rfl ?_
              refine g_iald hC (by assumption) (by omega) (by omega) (by decide) dX10_refuses_80 ?_
              refine g_iload_n hC dX10_refuses_81 rfl ?_
              refine g_icmp_le (tgt := 106) hC dX10_refuses_82 (by decide) ⟨by omega, by omega⟩ ⟨by omega, by omega⟩ (fun h82 => ?_) (fun h82 => ?_)
              · refine g_iload hC dX10_refuses_106 rfl ?_
                refine g_iconst hC dX10_refuses_108 ?_
                refine g_iadd hC dX10_refuses_109 ?_
                refine g_iret hC hI rfl dX10_refuses_110 (Nat.le_of_ble_eq_true rfl) (Nat.le_of_ble_eq_true rfl) ⟨rfl, rfl, rfl, _, rfl, ?_⟩
                rw [c5]
                first
                | (rw [rfS_dn hk dl th]; done)
                | (rw [rfS_d hk dl th, if_pos (by omega)]; done)
                | (rw [rfS_t hk dl th, if_pos (by omega)]; done)
                | (rw [rfS_n hk dl th, if_pos (by omega)]; done)
                | (exfalso; omega)
              · refine g_aload_n hC dX10_refuses_85 rfl ?_
                refine g_getR hC fdX10_62 (by assumption) (by assumption) dX10_refuses_86 ?_
                refine g_iload hC dX10_refuses_89 rfl ?_
                refine g_zald hC (by assumption) (by omega) (by omega) (by decide) dX10_refuses_91 ?_
                refine g_if_eq (tgt := 100) hC dX10_refuses_92 (by decide) ⟨by omega, by omega⟩ (fun h92 => ?_) (fun h92 => ?_)
                · refine g_iload_n hC dX10_refuses_100 rfl ?_
                  refine g_bipush hC dX10_refuses_101 (by decide +kernel) ?_
                  refine g_icmp_le (tgt := 111) hC dX10_refuses_103 (by decide) ⟨by omega, by omega⟩ ⟨by omega, by omega⟩ (fun h103 => ?_) (fun h103 => ?_)
                  · refine g_aload_n hC dX10_refuses_111 rfl ?_
                    refine g_getR hC fdX10_53 (by assumption) (by assumption) dX10_refuses_112 ?_
                    refine g_iload hC dX10_refuses_115 rfl ?_
                    refine g_iald hC (by assumption) (by omega) (by omega) (by decide) dX10_refuses_117 ?_
                    refine g_istore_n hC 2 rfl dX10_refuses_118 (Nat.le_of_ble_eq_true rfl) ?_
                    dsimp only [List.set]
                    refine g_iinc hC dX10_refuses_119 rfl ?_
                    dsimp only [List.set]
                    refine g_goto (tgt := 12) hC dX10_refuses_122 (by decide) ?_
                    first
                    | exact J12 (ch.length + 1) 0 _ 0 _ (Nat.zero_le _) (by omega) (by omega) (by omega) (by rw [l7]; rfl)
                    | exact ih (k + 1) (z + -1) _ _ (by omega) (by omega) (by omega) (by omega) (by rw [c5, rfS_d hk dl th, if_neg (by omega), nk]; rfl)
                    | exact ih (k + 1) (z + 0) _ _ (by omega) (by omega) (by omega) (by omega) (by rw [c5, rfS_t hk dl th, if_neg (by omega), nk, Int.add_zero]; rfl)
                    | exact ih (k + 1) (z + 1) _ _ (by omega) (by omega) (by omega) (by omega) (by rw [c5, rfS_n hk dl th, if_neg (by omega), nk]; rfl)
                    | (exfalso; omega)
                  · refine g_iload hC dX10_refuses_106 rfl ?_
                    refine g_iconst hC dX10_refuses_108 ?_
                    refine g_iadd hC dX10_refuses_109 ?_
                    refine g_iret hC hI rfl dX10_refuses_110 (Nat.le_of_ble_eq_true rfl) (Nat.le_of_ble_eq_true rfl) ⟨rfl, rfl, rfl, _, rfl, ?_⟩
                    rw [c5]
                    first
                    | (rw [rfS_dn hk dl th]; done)
                    | (rw [rfS_d hk dl th, if_pos (by omega)]; done)
                    | (rw [rfS_t hk dl th, if_pos (by omega)]; done)
                    | (rw [rfS_n hk dl th, if_pos (by omega)]; done)
                    | (exfalso; omega)
                · exfalso; omega
            · exfalso; omega
          · exfalso; omega
  refine g_iconst hC dX10_refuses_0 ?_
  refine g_istore_n hC 2 rfl dX10_refuses_1 (Nat.le_of_ble_eq_true rfl) ?_
  dsimp only [List.set]
  refine g_aload_n hC dX10_refuses_2 rfl ?_
  refine g_getR hC fdX10_20 (by assumption) (by assumption) dX10_refuses_3 ?_
  refine g_iload_n hC dX10_refuses_6 rfl ?_
  refine g_iald hC (by assumption) (by omega) (by omega) (by decide) dX10_refuses_7 ?_
  refine g_istore_n hC 3 rfl dX10_refuses_8 (Nat.le_of_ble_eq_true rfl) ?_
  dsimp only [List.set]
  refine g_iconst hC dX10_refuses_9 ?_
  refine g_istore hC dX10_refuses_10 (Nat.le_of_ble_eq_true rfl) ?_
  dsimp only [List.set]
  first
  | exact J12 (ch.length + 1) 0 _ 0 _ (Nat.zero_le _) (by omega) (by omega) (by omega) (by rw [l7]; rfl)
  | exact ih (k + 1) (z + -1) _ _ (by omega) (by omega) (by omega) (by omega) (by rw [c5, rfS_d hk dl th, if_neg (by omega), nk]; rfl)
  | exact ih (k + 1) (z + 0) _ _ (by omega) (by omega) (by omega) (by omega) (by rw [c5, rfS_t hk dl th, if_neg (by omega), nk, Int.add_zero]; rfl)
  | exact ih (k + 1) (z + 1) _ _ (by omega) (by omega) (by omega) (by omega) (by rw [c5, rfS_n hk dl th, if_neg (by omega), nk]; rfl)
  | (exfalso; omega)
