section M2
variable {sh : Nat → Nat × Nat} {rf : Nat → Nat → Option Nat} {mem mem1 mem2 : Nat → Nat → Int} {m : Nat} {B : Nat → Nat} {ms : List (Option MemT)} {ss : List (Option SetT)} {xs ys : Lns}
def frB (B : Nat → Nat) (mem mem1 : Nat → Nat → Int) (k : Nat) : Prop := (∀ j, j ≠ k → mem1 (B 7) j = mem (B 7) j) ∧ ∀ a, ¬ (30 * k ≤ a ∧ a < 30 * k + 30) → mem1 (B 9) a = mem (B 9) a ∧ mem1 (B 10) a = mem (B 10) a ∧ ∀ i, i < 10 → mem1 (B 11) (10 * a + i) = mem (B 11) (10 * a + i)
theorem frB.trans {k : Nat} (h : frB B mem mem1 k) (g : frB B mem1 mem2 k) : frB B mem mem2 k := ⟨fun j hj => (g.1 j hj).trans (h.1 j hj), fun a ha => ⟨(g.2 a ha).1.trans (h.2 a ha).1, (g.2 a ha).2.1.trans (h.2 a ha).2.1, fun i hi => ((g.2 a ha).2.2 i hi).trans ((h.2 a ha).2.2 i hi)⟩⟩
theorem lnM.fr {k k2 : Nat} (h : lnM B mem k2 xs) (ok : okL xs) (hk : k2 ≠ k) (f : frB B mem mem1 k) : lnM B mem1 k2 xs := by
  obtain ⟨h1, h2⟩ := h
  obtain ⟨o1, o2⟩ := ok
  refine ⟨by rw [f.1 k2 hk]; exact h1, fun j hj => ?_⟩
  obtain ⟨p1, p2, p3⟩ := h2 j hj
  obtain ⟨q1, q2, q3⟩ := f.2 (30 * k2 + j) (by omega)
  have o3 := (o2 j).1
  exact ⟨by rw [q1]; exact p1, by rw [q2]; exact p2, fun i hi => by rw [q3 i (by omega)]; exact p3 i hi⟩
theorem vM_lines {k : Nat} {x : MemT} (h : vM m B mem ms) (ok : okM ms) (hx : ms.getD k none = some x) (hl : lnM B mem1 (k + 1) ys) (hf : frB B mem mem1 (k + 1)) (hc : chF m B mem mem1 [7, 9, 10, 11]) : vM m B mem1 (ms.set k (some (x.1, x.2.1, ys))) := by
  have hk : k < ms.length := getD_ltM (by rw [hx]; simp)
  obtain ⟨h1, h2, h3⟩ := h
  have c8 := (hc.1 8 (by decide)).2
  have c5 := (hc.1 5 (by decide)).2
  have c6 := (hc.1 6 (by decide)).2
  refine ⟨by rw [(hc.1 2 (by decide)).1, List.length_set]; exact h1, fun i hi => ?_, fun i hi => ?_⟩
  · rw [List.length_set] at hi
    rw [getD_setM hk]
    by_cases e : i = k
    · subst e
      rw [if_pos rfl]
      refine ⟨fun w => by simp at w, fun w hw => ?_⟩
      cases hw
      have q := (h2 i hi).2 x hx
      exact ⟨by rw [c8]; exact q.1, by rw [c5]; exact q.2.1, by rw [c6]; exact q.2.2.1, hl⟩
    · rw [if_neg e, c8]
      refine ⟨(h2 i hi).1, fun w hw => ?_⟩
      have q := (h2 i hi).2 w hw
      exact ⟨by rw [c8]; exact q.1, by rw [c5]; exact q.2.1, by rw [c6]; exact q.2.2.1, q.2.2.2.fr (ok.2 i w hw).2.2.2.2 (by omega) hf⟩
  · rw [List.length_set] at hi
    rw [c8]; exact h3 i hi
def newM (B : Nat → Nat) (mem : Nat → Nat → Int) (m k : Nat) (l n : Int) : Nat → Nat → Int := gup (gup (gup (gup mem m 2 k) (B 5) k l) (B 6) k n) (B 7) k 0
theorem vM_new {l n : Int} (hBe : ∀ i j, (B i = B j) = (i = j)) (hBm : ∀ i, (B i = m) = False) (hmB : ∀ i, (m = B i) = False) (h : vM m B mem ms) : vM m B (newM B mem m (ms.length + 1) l n) (ms ++ [some (l, n, [])]) ∧ chF m B mem (newM B mem m (ms.length + 1) l n) [2, 5, 6, 7] ∧ (∀ k, k ≤ ms.length → newM B mem m (ms.length + 1) l n (B 7) k = mem (B 7) k) := by
  obtain ⟨h1, h2, h3⟩ := h
  refine ⟨⟨?_, fun i hi => ?_, fun i hi => ?_⟩, ((chF.fld hmB).trans ((chF.row hBe hmB).trans ((chF.row hBe hmB).trans (chF.row hBe hmB)))), fun k hk => ?_⟩
  · simp [newM, gup, hmB]
  · rw [getD_appM]
    by_cases e : i = ms.length
    · subst e
      rw [if_pos rfl]
      refine ⟨fun w => by simp at w, fun w hw => ?_⟩
      cases hw
      refine ⟨?_, ?_, ?_, ?_, fun j hj => absurd hj (Nat.not_lt_zero j)⟩
      · simp [newM, gup, hBe, hBm]; exact h3 _ (Nat.le_refl _)
      · simp [newM, gup, hBe, hBm]
      · simp [newM, gup, hBe, hBm]
      · simp [newM, gup, hBe, hBm]
    · rw [if_neg e]
      have hi2 : i < ms.length := by simp at hi; omega
      refine ⟨fun w => ?_, fun w hw => ?_⟩
      · simp [newM, gup, hBe, hBm]; exact (h2 i hi2).1 w
      · obtain ⟨q1, q2, q3, q4, q5⟩ := (h2 i hi2).2 w hw
        refine ⟨?_, ?_, ?_, ?_, fun j hj => ?_⟩
        · simp [newM, gup, hBe, hBm]; exact q1
        · simp [newM, gup, hBe, hBm, e]; exact q2
        · simp [newM, gup, hBe, hBm, e]; exact q3
        · simp [newM, gup, hBe, hBm, e]; exact q4
        · simp [newM, gup, hBe, hBm]; exact q5 j hj
  · simp at hi
    simp [newM, gup, hBe, hBm]; exact h3 i (by omega)
  · have : k ≠ ms.length + 1 := by omega
    simp [newM, gup, hBe, hBm, this]
theorem vM_gone {k : Nat} {x : MemT} (hBe : ∀ i j, (B i = B j) = (i = j)) (hmB : ∀ i, (m = B i) = False) (h : vM m B mem ms) (hx : ms.getD k none = some x) : vM m B (gup mem (B 8) (k + 1) 1) (ms.set k none) ∧ chF m B mem (gup mem (B 8) (k + 1) 1) [8] := by
  have hk : k < ms.length := getD_ltM (by rw [hx]; simp)
  obtain ⟨h1, h2, h3⟩ := h
  have hc : chF m B mem (gup mem (B 8) (k + 1) 1) [8] := chF.row hBe hmB
  refine ⟨⟨by rw [(hc.1 2 (by decide)).1, List.length_set]; exact h1, fun i hi => ?_, fun i hi => ?_⟩, hc⟩
  · rw [List.length_set] at hi
    rw [getD_setM hk]
    by_cases e : i = k
    · subst e
      rw [if_pos rfl]
      exact ⟨fun _ => gup_s _ _ _ _, fun w hw => by simp at hw⟩
    · rw [if_neg e, gup_k _ _ _ _ (by omega)]
      refine ⟨(h2 i hi).1, fun w hw => ?_⟩
      obtain ⟨q1, q2, q3, q4⟩ := (h2 i hi).2 w hw
      exact ⟨by rw [gup_k _ _ _ _ (by omega)]; exact q1, by rw [(hc.1 5 (by decide)).2]; exact q2, by rw [(hc.1 6 (by decide)).2]; exact q3, q4.st hc (by decide) (by decide) (by decide) (by decide)⟩
  · rw [List.length_set] at hi
    rw [gup_k _ _ _ _ (by omega)]; exact h3 i hi
def so (b n q a : Nat) : Nat := if b + q + 1 ≤ a ∧ a ≤ b + n then a - 1 else a
def sc (b p q a : Nat) : Nat := if b + p ≤ a ∧ a < b + q then a + 1 else a
def sl (f t q a : Nat) : Nat := if t ≤ a ∧ a < t + q then f + (a - t) else a
theorem open_view {k p : Nat} {n : Int} (hBe : ∀ i j, (B i = B j) = (i = j)) (hl : lnM B mem k xs) (ok : okL xs) (hn : xs.length < 30) (hp : p ≤ xs.length) (r : RLn B mem mem1 (so (30 * k) xs.length p)) (h7 : mem1 (B 7) = mem (B 7)) : lnM B (gup (gup (gup mem1 (B 7) k (xs.length + 1)) (B 9) (30 * k + p) n) (B 10) (30 * k + p) 0) k (xs.insertIdx p (n, [])) ∧ frB B mem (gup (gup (gup mem1 (B 7) k (xs.length + 1)) (B 9) (30 * k + p) n) (B 10) (30 * k + p) 0) k := by
  obtain ⟨h1, h2⟩ := hl
  obtain ⟨o1, o2⟩ := ok
  have len : (xs.insertIdx p (n, [])).length = xs.length + 1 := by rw [List.length_insertIdx, if_pos hp]
  refine ⟨⟨?_, fun j hj => ?_⟩, fun j hj => ?_, fun a ha => ?_⟩
  · rw [len]; simp [gup, hBe]
  · rw [len] at hj
    rw [nu_ins _ hp, sg_ins _ hp]
    by_cases e1 : j < p
    · have e2 : so (30 * k) xs.length p (30 * k + j) = 30 * k + j := by unfold so; rw [if_neg (by omega)]
      obtain ⟨w1, w2, w3⟩ := r (30 * k + j)
      rw [e2] at w1 w2 w3
      obtain ⟨u1, u2, u3⟩ := h2 j (by omega)
      rw [if_pos e1, if_pos e1]
      have ne : j ≠ p := by omega
      have o3 := (o2 j).1
      refine ⟨?_, ?_, fun i hi => ?_⟩
      · simp [gup, hBe, ne]; rw [w1]; exact u1
      · simp [gup, hBe, ne]; rw [w2]; exact u2
      · simp [gup, hBe]; rw [w3 i (by omega)]; exact u3 i hi
    · rw [if_neg e1, if_neg e1]
      by_cases e3 : j = p
      · subst e3
        rw [if_pos rfl, if_pos rfl]
        refine ⟨by simp [gup, hBe], by simp [gup, hBe], fun i hi => absurd hi (Nat.not_lt_zero i)⟩
      · have e2 : so (30 * k) xs.length p (30 * k + j) = 30 * k + (j - 1) := by unfold so; rw [if_pos (by omega)]; omega
        obtain ⟨w1, w2, w3⟩ := r (30 * k + j)
        rw [e2] at w1 w2 w3
        obtain ⟨u1, u2, u3⟩ := h2 (j - 1) (by omega)
        rw [if_neg e3, if_neg e3]
        have o3 := (o2 (j - 1)).1
        refine ⟨?_, ?_, fun i hi => ?_⟩
        · simp [gup, hBe, e3]; rw [w1]; exact u1
        · simp [gup, hBe, e3]; rw [w2]; exact u2
        · simp [gup, hBe]; rw [w3 i (by omega)]; exact u3 i hi
  · simp [gup, hBe, hj, h7]
  · have e2 : so (30 * k) xs.length p a = a := by unfold so; rw [if_neg (by omega)]
    obtain ⟨w1, w2, w3⟩ := r a
    rw [e2] at w1 w2 w3
    have ne : a ≠ 30 * k + p := by omega
    refine ⟨?_, ?_, fun i hi => ?_⟩
    · simp [gup, hBe, ne]; exact w1
    · simp [gup, hBe, ne]; exact w2
    · simp [gup, hBe]; exact w3 i hi
theorem shut_view {k p : Nat} (hl : lnM B mem k xs) (ok : okL xs) (hp : p < xs.length) (r : RLn B mem mem1 (sc (30 * k) p (xs.length - 1))) (h7 : mem1 (B 7) k = xs.length - 1) (h8 : ∀ j, j ≠ k → mem1 (B 7) j = mem (B 7) j) : lnM B mem1 k (xs.eraseIdx p) ∧ frB B mem mem1 k := by
  obtain ⟨h1, h2⟩ := hl
  obtain ⟨o1, o2⟩ := ok
  have len : (xs.eraseIdx p).length = xs.length - 1 := List.length_eraseIdx_of_lt hp
  refine ⟨⟨by rw [h7, len]; omega, fun j hj => ?_⟩, h8, fun a ha => ?_⟩
  · rw [len] at hj
    rw [nu_del, sg_del]
    by_cases e1 : j < p
    · have e2 : sc (30 * k) p (xs.length - 1) (30 * k + j) = 30 * k + j := by unfold sc; rw [if_neg (by omega)]
      obtain ⟨w1, w2, w3⟩ := r (30 * k + j)
      rw [e2] at w1 w2 w3
      obtain ⟨u1, u2, u3⟩ := h2 j (by omega)
      have o3 := (o2 j).1
      rw [if_pos e1, if_pos e1]
      exact ⟨w1.trans u1, w2.trans u2, fun i hi => (w3 i (by omega)).trans (u3 i hi)⟩
    · have e2 : sc (30 * k) p (xs.length - 1) (30 * k + j) = 30 * k + (j + 1) := by unfold sc; rw [if_pos (by omega)]; omega
      obtain ⟨w1, w2, w3⟩ := r (30 * k + j)
      rw [e2] at w1 w2 w3
      obtain ⟨u1, u2, u3⟩ := h2 (j + 1) (by omega)
      have o3 := (o2 (j + 1)).1
      rw [if_neg e1, if_neg e1]
      exact ⟨w1.trans u1, w2.trans u2, fun i hi => (w3 i (by omega)).trans (u3 i hi)⟩
  · have e2 : sc (30 * k) p (xs.length - 1) a = a := by unfold sc; rw [if_neg (by omega)]
    obtain ⟨w1, w2, w3⟩ := r a
    rw [e2] at w1 w2 w3
    exact ⟨w1, w2, w3⟩
theorem lines_view {f t : Nat} (hl : lnM B mem f xs) (ok : okL xs) (r : RLn B mem mem1 (sl (30 * f) (30 * t) xs.length)) (h7 : mem1 (B 7) t = xs.length) (h8 : ∀ j, j ≠ t → mem1 (B 7) j = mem (B 7) j) : lnM B mem1 t xs ∧ frB B mem mem1 t := by
  obtain ⟨h1, h2⟩ := hl
  obtain ⟨o1, o2⟩ := ok
  refine ⟨⟨h7, fun j hj => ?_⟩, h8, fun a ha => ?_⟩
  · have e2 : sl (30 * f) (30 * t) xs.length (30 * t + j) = 30 * f + j := by unfold sl; rw [if_pos (by omega)]; omega
    obtain ⟨w1, w2, w3⟩ := r (30 * t + j)
    rw [e2] at w1 w2 w3
    obtain ⟨u1, u2, u3⟩ := h2 j hj
    have o3 := (o2 j).1
    exact ⟨w1.trans u1, w2.trans u2, fun i hi => (w3 i (by omega)).trans (u3 i hi)⟩
  · have e2 : sl (30 * f) (30 * t) xs.length a = a := by unfold sl; rw [if_neg (by omega)]
    obtain ⟨w1, w2, w3⟩ := r a
    rw [e2] at w1 w2 w3
    exact ⟨w1, w2, w3⟩
end M2
