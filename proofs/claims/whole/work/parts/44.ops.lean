/-! changes of one part of the world -/
section OP
variable {G : Nat → Prop} {sh sh1 : Nat → Nat × Nat} {rf rf1 : Nat → Nat → Option Nat} {mem mem1 : Nat → Nat → Int} {x : Nat} {A la l0 l1 l2 sa ra : Nat → Nat} {rp ex ar : List Int} {ms : List (Option MemT)} {ss : List (Option SetT)} {ch : Lns} {ds : Dfs} {lk : Nat} {g y z : Int}
theorem pO (h : WXa G sh rf mem x A la l0 l1 l2 sa ra rp ms ss ch ds lk ex ar g y z) (u : Un sh rf mem sh1 rf1 mem1 x) : wO sh1 rf1 x A := by
  obtain ⟨o1, o2⟩ := h.1
  refine ⟨by rw [u.1]; exact o1, ?_⟩
  rw [u.2.1]
  exact o2
theorem pC (h : WXa G sh rf mem x A la l0 l1 l2 sa ra rp ms ss ch ds lk ex ar g y z) (u : Un sh rf mem sh1 rf1 mem1 (A 6)) (u0 : Un sh rf mem sh1 rf1 mem1 (A 7)) (u1 : Un sh rf mem sh1 rf1 mem1 (A 8)) (u2 : Un sh rf mem sh1 rf1 mem1 (A 9)) (u3 : Un sh rf mem sh1 rf1 mem1 (A 10)) : wC sh1 rf1 mem1 A ch := by
  obtain ⟨-, -, -, ⟨hC1, hC2, hC3, hC4⟩, -⟩ := h
  exact ⟨⟨by rw [u.1]; exact hC1.1, by rw [u.2.1]; exact hC1.2⟩, stN hC2 hC3 hC4 u0 u1 u2 u3⟩
theorem pM0 (h : WXa G sh rf mem x A la l0 l1 l2 sa ra rp ms ss ch ds lk ex ar g y z) (u0 : Un sh rf mem sh1 rf1 mem1 (A 11)) (u1 : Un sh rf mem sh1 rf1 mem1 (A 12)) (u2 : Un sh rf mem sh1 rf1 mem1 (A 13)) (u3 : Un sh rf mem sh1 rf1 mem1 (A 14)) : wM sh1 rf1 mem1 A ds lk := by
  obtain ⟨-, -, -, -, ⟨hM1, hM2, hM3, hM4⟩, -⟩ := h
  obtain ⟨k1, k2⟩ := stM hM1 hM2 u0 u1 u2 u3
  exact ⟨k1, k2, by rw [u0.2.2]; exact hM3, hM4⟩
theorem pE0 (h : WXa G sh rf mem x A la l0 l1 l2 sa ra rp ms ss ch ds lk ex ar g y z) (u0 : Un sh rf mem sh1 rf1 mem1 (A 15)) (u1 : Un sh rf mem sh1 rf1 mem1 (A 16)) : OcO sh1 rf1 (A 15) (A 16) ∧ OcV mem1 (A 15) (A 16) ex := by
  obtain ⟨-, -, -, -, -, hE, -⟩ := h
  exact stO hE.1 hE.2 u0 u1
theorem pA0 (h : WXa G sh rf mem x A la l0 l1 l2 sa ra rp ms ss ch ds lk ex ar g y z) (u0 : Un sh rf mem sh1 rf1 mem1 (A 17)) (u1 : Un sh rf mem sh1 rf1 mem1 (A 18)) : OcO sh1 rf1 (A 17) (A 18) ∧ OcV mem1 (A 17) (A 18) ar := by
  obtain ⟨-, -, -, -, -, -, hE, -⟩ := h
  exact stO hE.1 hE.2 u0 u1
theorem pS0 (h : WXa G sh rf mem x A la l0 l1 l2 sa ra rp ms ss ch ds lk ex ar g y z) (u : Un sh rf mem sh1 rf1 mem1 (A 19)) : wS sh1 mem1 A g y z := by
  obtain ⟨-, -, -, -, -, -, -, hS, -⟩ := h
  unfold wS
  rw [u.1, u.2.2]
  exact hS
/-- the shapes of the world's cells -/
theorem WXa.shp (h : WXa G sh rf mem x A la l0 l1 l2 sa ra rp ms ss ch ds lk ex ar g y z) : sh x = (9, 0) ∧ (sh (A 0) = (3, 0) ∧ sh (A 1) = (13, 6) ∧ sh (A 2) = (15, 80) ∧ sh (A 3) = (12, 600)) ∧ (sh (A 4) = (7, 0) ∧ sh (A 5) = (16, 20)) ∧ (sh (A 6) = (1, 0) ∧ sh (A 7) = (4, 0) ∧ sh (A 8) = (12, 30) ∧ sh (A 9) = (12, 30) ∧ sh (A 10) = (11, 300)) ∧ (sh (A 11) = (2, 0) ∧ sh (A 12) = (12, 60) ∧ sh (A 13) = (12, 60) ∧ sh (A 14) = (12, 60)) ∧ (sh (A 15) = (5, 0) ∧ sh (A 16) = (11, 244)) ∧ (sh (A 17) = (5, 0) ∧ sh (A 18) = (11, 244)) ∧ sh (A 19) = (8, 0) := by
  obtain ⟨hO, ⟨⟨ho, -, -, -, hs0, hs1, hs2⟩, -⟩, hR, ⟨hC1, hC2, -⟩, ⟨hM1, -⟩, hE, hA, hS, -⟩ := h
  obtain ⟨c1, -, -, -, c5, c6, c7, -⟩ := hC2
  obtain ⟨m1, -, -, -, m5, m6, m7, -⟩ := hM1
  exact ⟨hO.1, ⟨ho, hs0, hs1, hs2⟩, ⟨hR.1, hR.2.2.1⟩, ⟨hC1.1, c1, c5, c6, c7⟩, ⟨m1, m5, m6, m7⟩, ⟨hE.1.1, hE.1.2.2⟩, ⟨hA.1.1, hA.1.2.2⟩, hS.1⟩
theorem gsh_ne {s : Nat × Nat} (h : gsh s) : s.1 ≠ 0 := by
  rcases h with h | h | ⟨h, -⟩ | h <;> omega
theorem opL {rp1 : List Int} {ms1 : List (Option MemT)} {ka k0 k1 k2 : Nat → Nat} (h : WXa G sh rf mem x A la l0 l1 l2 sa ra rp ms ss ch ds lk ex ar g y z) (hO1 : LbO sh1 rf1 (A 0) (A 1) (A 2) (A 3)) (hV1 : LbV sh1 rf1 mem1 (A 0) (A 1) (A 2) (A 3) ka k0 k1 k2 rp1 ms1) (hF : LbF sh rf mem sh1 rf1 mem1 (A 3) la l0 l1 l2 ms) (hr : ∀ i, ms1.getD i none ≠ none → (∃ j, ms.getD j none ≠ none ∧ ka i = la j ∧ k0 i = l0 j ∧ k1 i = l1 j ∧ k2 i = l2 j) ∨ ((sh (ka i)).1 = 0 ∧ (sh (k0 i)).1 = 0 ∧ (sh (k1 i)).1 = 0 ∧ (sh (k2 i)).1 = 0)) : WXa G sh1 rf1 mem1 x A ka k0 k1 k2 sa ra rp1 ms1 ss ch ds lk ex ar g y z ∧ ∀ b, G b → Un sh rf mem sh1 rf1 mem1 b := by
  obtain ⟨s0, ⟨sL0, sL1, sL2, sL3⟩, ⟨sR0, sR1⟩, ⟨sC0, sC1, sC2, sC3, sC4⟩, ⟨sM0, sM1, sM2, sM3⟩, ⟨sE0, sE1⟩, ⟨sA0, sA1⟩, sS⟩ := WXa.shp h
  have hh := h
  obtain ⟨-, ⟨hL1, hL2⟩, hR, -, -, -, -, -, ⟨d1, d2⟩, ⟨g0, g1, g2, g3⟩⟩ := hh
  have key : ∀ b s, sh b = s → (s.1 ≠ 0 ∧ s ≠ (3, 0) ∧ s ≠ (13, 6) ∧ s ≠ (15, 80) ∧ s ≠ (12, 600) ∧ s ≠ (4, 0) ∧ s ≠ (12, 30) ∧ s ≠ (11, 300)) → Un sh rf mem sh1 rf1 mem1 b := by
    intro b s e ⟨e0, e1, e2, e3, e4, e5, e6, e7⟩
    subst e
    refine ⟨hF.1 b e0, hF.2 b e0 e1 e2 e3 (fun q => e4 (by rw [q]; exact sL3)) (fun i hi => ?_)⟩
    obtain ⟨r0, r1, r2, r3⟩ := rowsL hL2 hi
    exact ⟨fun q => e5 (by rw [q]; exact r0), fun q => e6 (by rw [q]; exact r1), fun q => e6 (by rw [q]; exact r2), fun q => e7 (by rw [q]; exact r3)⟩
  have kc : ∀ b, (b = A 7 ∨ b = A 8 ∨ b = A 9 ∨ b = A 10) → Un sh rf mem sh1 rf1 mem1 b := by
    intro b hb
    have hs : sh b = (4, 0) ∨ sh b = (12, 30) ∨ sh b = (11, 300) := by
      rcases hb with rfl | rfl | rfl | rfl
      · exact Or.inl sC1
      · exact Or.inr (Or.inl sC2)
      · exact Or.inr (Or.inl sC3)
      · exact Or.inr (Or.inr sC4)
    have ha : (sh b).1 ≠ 0 := by rcases hs with e | e | e <;> rw [e] <;> decide
    refine ⟨hF.1 b ha, hF.2 b ha (by rcases hs with e | e | e <;> rw [e] <;> decide) (by rcases hs with e | e | e <;> rw [e] <;> decide) (by rcases hs with e | e | e <;> rw [e] <;> decide) (fun q => by rw [q, sL3] at hs; rcases hs with e | e | e <;> simp at e) (fun i hi => ?_)⟩
    obtain ⟨r0, r1, r2, r3⟩ := rowsL hL2 hi
    obtain ⟨f1, f2, f3, f4, f5, f6⟩ := d1 i hi
    rcases hb with rfl | rfl | rfl | rfl
    · exact ⟨f1.symm, fun q => (by rw [q, r1] at sC1; simp at sC1), fun q => (by rw [q, r2] at sC1; simp at sC1), fun q => (by rw [q, r3] at sC1; simp at sC1)⟩
    · exact ⟨fun q => (by rw [q, r0] at sC2; simp at sC2), f2.symm, f4.symm, fun q => (by rw [q, r3] at sC2; simp at sC2)⟩
    · exact ⟨fun q => (by rw [q, r0] at sC3; simp at sC3), f3.symm, f5.symm, fun q => (by rw [q, r3] at sC3; simp at sC3)⟩
    · exact ⟨fun q => (by rw [q, r0] at sC4; simp at sC4), fun q => (by rw [q, r1] at sC4; simp at sC4), fun q => (by rw [q, r2] at sC4; simp at sC4), f6.symm⟩
  have kg : ∀ b, G b → Un sh rf mem sh1 rf1 mem1 b := by
    intro b hb
    have hs := g0 b hb
    have ha := gsh_ne hs
    refine ⟨hF.1 b ha, hF.2 b ha ?_ ?_ ?_ (fun q => g1 (by rw [← q]; exact hb)) (fun i hi => ?_)⟩
    · intro e; rw [e] at hs; simp [gsh] at hs
    · intro e; rw [e] at hs; simp [gsh] at hs
    · intro e; rw [e] at hs; simp [gsh] at hs
    · obtain ⟨r0, r1, r2, r3⟩ := rowsL hL2 hi
      refine ⟨fun q => ?_, fun q => (g2 i hi).1 (by rw [← q]; exact hb), fun q => (g2 i hi).2 (by rw [← q]; exact hb), fun q => ?_⟩
      · rw [q, r0] at hs; simp [gsh] at hs
      · rw [q, r3] at hs; simp [gsh] at hs
  refine ⟨⟨pO h (key _ _ s0 (by decide)), ⟨hO1, hV1⟩, stR hR (key _ _ sR0 (by decide)) (key _ _ sR1 (by decide)) (fun i hi => ⟨key _ _ (rowsR hR hi).1 (by decide), key _ _ (rowsR hR hi).2 (by decide)⟩), pC h (key _ _ sC0 (by decide)) (kc _ (Or.inl rfl)) (kc _ (Or.inr (Or.inl rfl))) (kc _ (Or.inr (Or.inr (Or.inl rfl)))) (kc _ (Or.inr (Or.inr (Or.inr rfl)))), pM0 h (key _ _ sM0 (by decide)) (key _ _ sM1 (by decide)) (key _ _ sM2 (by decide)) (key _ _ sM3 (by decide)), pE0 h (key _ _ sE0 (by decide)) (key _ _ sE1 (by decide)), pA0 h (key _ _ sA0 (by decide)) (key _ _ sA1 (by decide)), pS0 h (key _ _ sS (by decide)), ⟨fun i hi => ?_, d2⟩, ⟨fun b hb => by rw [(kg b hb).1]; exact g0 b hb, g1, fun i hi => ?_, g3⟩⟩, kg⟩
  · rcases hr i hi with ⟨j, w0, w1, w2, w3, w4⟩ | ⟨w1, w2, w3, w4⟩
    · rw [w1, w2, w3, w4]; exact d1 j w0
    · refine ⟨fun q => ?_, fun q => ?_, fun q => ?_, fun q => ?_, fun q => ?_, fun q => ?_⟩
      · rw [q, sC1] at w1; simp at w1
      · rw [q, sC2] at w2; simp at w2
      · rw [q, sC3] at w2; simp at w2
      · rw [q, sC2] at w3; simp at w3
      · rw [q, sC3] at w3; simp at w3
      · rw [q, sC4] at w4; simp at w4
  · rcases hr i hi with ⟨j, w0, w1, w2, w3, w4⟩ | ⟨w1, w2, w3, w4⟩
    · rw [w2, w3]; exact g2 j w0
    · exact ⟨fun q => gsh_ne (g0 _ q) w2, fun q => gsh_ne (g0 _ q) w3⟩
theorem opR {ss1 : List (Option SetT)} {sa1 ra1 : Nat → Nat} (h : WXa G sh rf mem x A la l0 l1 l2 sa ra rp ms ss ch ds lk ex ar g y z) (hR1 : RSs sh1 rf1 mem1 (A 4) (A 5) sa1 ra1 ss1) (hF : RSf sh rf mem sh1 rf1 mem1 ra ss) (hr : ∀ i, ss1.getD i none ≠ none → (∃ j, ss.getD j none ≠ none ∧ ra1 i = ra j) ∨ (sh (ra1 i)).1 = 0) : WXa G sh1 rf1 mem1 x A la l0 l1 l2 sa1 ra1 rp ms ss1 ch ds lk ex ar g y z ∧ ∀ b, G b → Un sh rf mem sh1 rf1 mem1 b := by
  obtain ⟨s0, ⟨sL0, sL1, sL2, sL3⟩, ⟨sR0, sR1⟩, ⟨sC0, sC1, sC2, sC3, sC4⟩, ⟨sM0, sM1, sM2, sM3⟩, ⟨sE0, sE1⟩, ⟨sA0, sA1⟩, sS⟩ := WXa.shp h
  have hh := h
  obtain ⟨-, ⟨hL1, hL2⟩, hR, -, -, -, -, -, ⟨d1, d2, d3⟩, ⟨g0, g1, g2, g3, g4⟩⟩ := hh
  have key : ∀ b s, sh b = s → (s.1 ≠ 0 ∧ s ≠ (7, 0) ∧ s ≠ (16, 20) ∧ s ≠ (6, 0) ∧ s ≠ (12, 60)) → Un sh rf mem sh1 rf1 mem1 b := by
    intro b s e ⟨e0, e1, e2, e3, e4⟩
    subst e
    exact ⟨hF.1 b e0, hF.2 b e0 e1 e2 e3 (fun i hi q => e4 (by rw [q]; exact (rowsR hR hi).2))⟩
  have km : ∀ b, sh b = (12, 60) → (∀ i, ss.getD i none ≠ none → b ≠ ra i) → Un sh rf mem sh1 rf1 mem1 b := by
    intro b e hb
    have ha : (sh b).1 ≠ 0 := by rw [e]; decide
    exact ⟨hF.1 b ha, hF.2 b ha (by rw [e]; decide) (by rw [e]; decide) (by rw [e]; decide) hb⟩
  have kg : ∀ b, G b → Un sh rf mem sh1 rf1 mem1 b := by
    intro b hb
    have hs := g0 b hb
    have ha := gsh_ne hs
    refine ⟨hF.1 b ha, hF.2 b ha ?_ ?_ ?_ (fun i hi q => g3 i hi (by rw [← q]; exact hb))⟩
    · intro e; rw [e] at hs; simp [gsh] at hs
    · intro e; rw [e] at hs; simp [gsh] at hs
    · intro e; rw [e] at hs; simp [gsh] at hs
  refine ⟨⟨pO h (key _ _ s0 (by decide)), stL hL1 hL2 (key _ _ sL0 (by decide)) (key _ _ sL1 (by decide)) (key _ _ sL2 (by decide)) (key _ _ sL3 (by decide)) (fun i hi => ⟨key _ _ (rowsL hL2 hi).1 (by decide), key _ _ (rowsL hL2 hi).2.1 (by decide), key _ _ (rowsL hL2 hi).2.2.1 (by decide), key _ _ (rowsL hL2 hi).2.2.2 (by decide)⟩), hR1, pC h (key _ _ sC0 (by decide)) (key _ _ sC1 (by decide)) (key _ _ sC2 (by decide)) (key _ _ sC3 (by decide)) (key _ _ sC4 (by decide)), pM0 h (key _ _ sM0 (by decide)) (km _ sM1 (fun i hi => (d2 i hi).1.symm)) (km _ sM2 (fun i hi => (d2 i hi).2.1.symm)) (km _ sM3 (fun i hi => (d2 i hi).2.2.symm)), pE0 h (key _ _ sE0 (by decide)) (key _ _ sE1 (by decide)), pA0 h (key _ _ sA0 (by decide)) (key _ _ sA1 (by decide)), pS0 h (key _ _ sS (by decide)), ⟨d1, fun i hi => ?_, d3⟩, ⟨fun b hb => by rw [(kg b hb).1]; exact g0 b hb, g1, g2, fun i hi => ?_, g4⟩⟩, kg⟩
  · rcases hr i hi with ⟨j, w0, w1⟩ | w1
    · rw [w1]; exact d2 j w0
    · refine ⟨fun q => ?_, fun q => ?_, fun q => ?_⟩
      · rw [q, sM1] at w1; simp at w1
      · rw [q, sM2] at w1; simp at w1
      · rw [q, sM3] at w1; simp at w1
  · rcases hr i hi with ⟨j, w0, w1⟩ | w1
    · rw [w1]; exact g3 j w0
    · exact fun q => gsh_ne (g0 _ q) w1
theorem opC {ch1 : Lns} (h : WXa G sh rf mem x A la l0 l1 l2 sa ra rp ms ss ch ds lk ex ar g y z) (hI1 : LnI mem1 (A 7) (A 8) (A 9) (A 10)) (hV1 : LnV mem1 (A 7) (A 8) (A 9) (A 10) ch1) (hf : Fr4 mem mem1 (A 7) (A 8) (A 9) (A 10)) : WXa G sh rf mem1 x A la l0 l1 l2 sa ra rp ms ss ch1 ds lk ex ar g y z ∧ ∀ b, G b → Un sh rf mem sh rf mem1 b := by
  obtain ⟨s0, ⟨sL0, sL1, sL2, sL3⟩, ⟨sR0, sR1⟩, ⟨sC0, sC1, sC2, sC3, sC4⟩, ⟨sM0, sM1, sM2, sM3⟩, ⟨sE0, sE1⟩, ⟨sA0, sA1⟩, sS⟩ := WXa.shp h
  have hh := h
  obtain ⟨-, ⟨hL1, hL2⟩, hR, ⟨hC1, hC2, -⟩, -, -, -, -, ⟨d1, d2, d3⟩, ⟨g0, g1, g2, g3, g4, g5, g6⟩⟩ := hh
  have key : ∀ b s, sh b = s → (s ≠ (4, 0) ∧ s ≠ (12, 30) ∧ s ≠ (11, 300)) → Un sh rf mem sh rf mem1 b := by
    intro b s e ⟨e0, e1, e2⟩
    subst e
    exact ⟨rfl, rfl, hf b (fun q => e0 (by rw [q]; exact sC1)) (fun q => e1 (by rw [q]; exact sC2)) (fun q => e1 (by rw [q]; exact sC3)) (fun q => e2 (by rw [q]; exact sC4))⟩
  have kg : ∀ b, G b → Un sh rf mem sh rf mem1 b := by
    intro b hb
    have hs := g0 b hb
    refine ⟨rfl, rfl, hf b (fun q => ?_) (fun q => g4 (by rw [← q]; exact hb)) (fun q => g5 (by rw [← q]; exact hb)) (fun q => ?_)⟩
    · rw [q, sC1] at hs; simp [gsh] at hs
    · rw [q, sC4] at hs; simp [gsh] at hs
  refine ⟨⟨pO h (key _ _ s0 (by decide)), stL hL1 hL2 (key _ _ sL0 (by decide)) (key _ _ sL1 (by decide)) (key _ _ sL2 (by decide)) (key _ _ sL3 (by decide)) (fun i hi => ?_), stR hR (key _ _ sR0 (by decide)) (key _ _ sR1 (by decide)) (fun i hi => ⟨key _ _ (rowsR hR hi).1 (by decide), key _ _ (rowsR hR hi).2 (by decide)⟩), ⟨hC1, hC2, hI1, hV1⟩, pM0 h (key _ _ sM0 (by decide)) (key _ _ sM1 (by decide)) (key _ _ sM2 (by decide)) (key _ _ sM3 (by decide)), pE0 h (key _ _ sE0 (by decide)) (key _ _ sE1 (by decide)), pA0 h (key _ _ sA0 (by decide)) (key _ _ sA1 (by decide)), pS0 h (key _ _ sS (by decide)), ⟨d1, d2, d3⟩, ⟨g0, g1, g2, g3, g4, g5, g6⟩⟩, kg⟩
  obtain ⟨q, hq⟩ := Option.ne_none_iff_exists'.mp hi
  obtain ⟨-, hOi, -⟩ := (hL2.2.2.2.2.2.1 i (getD_ltM hi)).2 q hq
  obtain ⟨f1, f2, f3, f4, f5, f6⟩ := d1 i hi
  obtain ⟨w, w0, w1, w2⟩ := LnFr (ys := ch) hC2 hOi ⟨f1.symm, f2.symm, f4.symm, f3.symm, f5.symm, f6.symm⟩ hf
  exact ⟨⟨rfl, rfl, w⟩, ⟨rfl, rfl, w0⟩, ⟨rfl, rfl, w1⟩, rfl, rfl, w2⟩
theorem opM {ds1 : Dfs} {lk1 : Nat} (h : WXa G sh rf mem x A la l0 l1 l2 sa ra rp ms ss ch ds lk ex ar g y z) (hV1 : CmV mem1 (A 11) (A 12) (A 13) (A 14) ds1) (hl : mem1 (A 11) 4 = lk1) (hl9 : lk1 ≤ 9) (hf : Fr4 mem mem1 (A 11) (A 12) (A 13) (A 14)) : WXa G sh rf mem1 x A la l0 l1 l2 sa ra rp ms ss ch ds1 lk1 ex ar g y z ∧ ∀ b, G b → Un sh rf mem sh rf mem1 b := by
  obtain ⟨s0, ⟨sL0, sL1, sL2, sL3⟩, ⟨sR0, sR1⟩, ⟨sC0, sC1, sC2, sC3, sC4⟩, ⟨sM0, sM1, sM2, sM3⟩, ⟨sE0, sE1⟩, ⟨sA0, sA1⟩, sS⟩ := WXa.shp h
  have hh := h
  obtain ⟨-, ⟨hL1, hL2⟩, hR, -, ⟨hM1, -⟩, -, -, -, ⟨d1, d2, d3⟩, ⟨g0, g1, g2, g3, g4, g5, g6, g7, g8⟩⟩ := hh
  have key : ∀ b s, sh b = s → (s ≠ (2, 0) ∧ s ≠ (12, 60)) → Un sh rf mem sh rf mem1 b := by
    intro b s e ⟨e0, e1⟩
    subst e
    exact ⟨rfl, rfl, hf b (fun q => e0 (by rw [q]; exact sM0)) (fun q => e1 (by rw [q]; exact sM1)) (fun q => e1 (by rw [q]; exact sM2)) (fun q => e1 (by rw [q]; exact sM3))⟩
  have kg : ∀ b, G b → Un sh rf mem sh rf mem1 b := by
    intro b hb
    have hs := g0 b hb
    refine ⟨rfl, rfl, hf b (fun q => ?_) (fun q => g6 (by rw [← q]; exact hb)) (fun q => g7 (by rw [← q]; exact hb)) (fun q => g8 (by rw [← q]; exact hb))⟩
    rw [q, sM0] at hs; simp [gsh] at hs
  refine ⟨⟨pO h (key _ _ s0 (by decide)), stL hL1 hL2 (key _ _ sL0 (by decide)) (key _ _ sL1 (by decide)) (key _ _ sL2 (by decide)) (key _ _ sL3 (by decide)) (fun i hi => ⟨key _ _ (rowsL hL2 hi).1 (by decide), key _ _ (rowsL hL2 hi).2.1 (by decide), key _ _ (rowsL hL2 hi).2.2.1 (by decide), key _ _ (rowsL hL2 hi).2.2.2 (by decide)⟩), stR hR (key _ _ sR0 (by decide)) (key _ _ sR1 (by decide)) (fun i hi => ⟨key _ _ (rowsR hR hi).1 (by decide), rfl, rfl, ?_⟩), pC h (key _ _ sC0 (by decide)) (key _ _ sC1 (by decide)) (key _ _ sC2 (by decide)) (key _ _ sC3 (by decide)) (key _ _ sC4 (by decide)), ⟨hM1, hV1, hl, hl9⟩, pE0 h (key _ _ sE0 (by decide)) (key _ _ sE1 (by decide)), pA0 h (key _ _ sA0 (by decide)) (key _ _ sA1 (by decide)), pS0 h (key _ _ sS (by decide)), ⟨d1, d2, d3⟩, ⟨g0, g1, g2, g3, g4, g5, g6, g7, g8⟩⟩, kg⟩
  refine hf _ (fun q => ?_) (d2 i hi).1 (d2 i hi).2.1 (d2 i hi).2.2
  have := (rowsR hR hi).2
  rw [q, sM0] at this
  simp at this
theorem opE {ex1 : List Int} (h : WXa G sh rf mem x A la l0 l1 l2 sa ra rp ms ss ch ds lk ex ar g y z) (hV1 : OcV mem1 (A 15) (A 16) ex1) (hf : Fr2 mem mem1 (A 15) (A 16)) : WXa G sh rf mem1 x A la l0 l1 l2 sa ra rp ms ss ch ds lk ex1 ar g y z ∧ ∀ b, G b → Un sh rf mem sh rf mem1 b := by
  obtain ⟨s0, ⟨sL0, sL1, sL2, sL3⟩, ⟨sR0, sR1⟩, ⟨sC0, sC1, sC2, sC3, sC4⟩, ⟨sM0, sM1, sM2, sM3⟩, ⟨sE0, sE1⟩, ⟨sA0, sA1⟩, sS⟩ := WXa.shp h
  have hh := h
  obtain ⟨-, ⟨hL1, hL2⟩, hR, -, -, ⟨hE1, -⟩, -, -, ⟨d1, d2, d3, d4⟩, hG⟩ := hh
  have key : ∀ b s, sh b = s → (s ≠ (5, 0) ∧ s ≠ (11, 244)) → Un sh rf mem sh rf mem1 b := by
    intro b s e ⟨e0, e1⟩
    subst e
    exact ⟨rfl, rfl, hf b (fun q => e0 (by rw [q]; exact sE0)) (fun q => e1 (by rw [q]; exact sE1))⟩
  have kg : ∀ b, G b → Un sh rf mem sh rf mem1 b := by
    intro b hb
    have hs := hG.1 b hb
    refine ⟨rfl, rfl, hf b (fun q => ?_) (fun q => ?_)⟩
    · rw [q, sE0] at hs; simp [gsh] at hs
    · rw [q, sE1] at hs; simp [gsh] at hs
  refine ⟨⟨pO h (key _ _ s0 (by decide)), stL hL1 hL2 (key _ _ sL0 (by decide)) (key _ _ sL1 (by decide)) (key _ _ sL2 (by decide)) (key _ _ sL3 (by decide)) (fun i hi => ⟨key _ _ (rowsL hL2 hi).1 (by decide), key _ _ (rowsL hL2 hi).2.1 (by decide), key _ _ (rowsL hL2 hi).2.2.1 (by decide), key _ _ (rowsL hL2 hi).2.2.2 (by decide)⟩), stR hR (key _ _ sR0 (by decide)) (key _ _ sR1 (by decide)) (fun i hi => ⟨key _ _ (rowsR hR hi).1 (by decide), key _ _ (rowsR hR hi).2 (by decide)⟩), pC h (key _ _ sC0 (by decide)) (key _ _ sC1 (by decide)) (key _ _ sC2 (by decide)) (key _ _ sC3 (by decide)) (key _ _ sC4 (by decide)), pM0 h (key _ _ sM0 (by decide)) (key _ _ sM1 (by decide)) (key _ _ sM2 (by decide)) (key _ _ sM3 (by decide)), ⟨hE1, hV1⟩, pA0 h ⟨rfl, rfl, hf _ d3.symm (fun q => ?_)⟩ ⟨rfl, rfl, hf _ (fun q => ?_) d4.symm⟩, pS0 h (key _ _ sS (by decide)), ⟨d1, d2, d3, d4⟩, hG⟩, kg⟩
  · rw [q, sE1] at sA0; simp at sA0
  · rw [q, sE0] at sA1; simp at sA1
theorem opA {ar1 : List Int} (h : WXa G sh rf mem x A la l0 l1 l2 sa ra rp ms ss ch ds lk ex ar g y z) (hV1 : OcV mem1 (A 17) (A 18) ar1) (hf : Fr2 mem mem1 (A 17) (A 18)) : WXa G sh rf mem1 x A la l0 l1 l2 sa ra rp ms ss ch ds lk ex ar1 g y z ∧ ∀ b, G b → Un sh rf mem sh rf mem1 b := by
  obtain ⟨s0, ⟨sL0, sL1, sL2, sL3⟩, ⟨sR0, sR1⟩, ⟨sC0, sC1, sC2, sC3, sC4⟩, ⟨sM0, sM1, sM2, sM3⟩, ⟨sE0, sE1⟩, ⟨sA0, sA1⟩, sS⟩ := WXa.shp h
  have hh := h
  obtain ⟨-, ⟨hL1, hL2⟩, hR, -, -, -, ⟨hE1, -⟩, -, ⟨d1, d2, d3, d4⟩, hG⟩ := hh
  have key : ∀ b s, sh b = s → (s ≠ (5, 0) ∧ s ≠ (11, 244)) → Un sh rf mem sh rf mem1 b := by
    intro b s e ⟨e0, e1⟩
    subst e
    exact ⟨rfl, rfl, hf b (fun q => e0 (by rw [q]; exact sA0)) (fun q => e1 (by rw [q]; exact sA1))⟩
  have kg : ∀ b, G b → Un sh rf mem sh rf mem1 b := by
    intro b hb
    have hs := hG.1 b hb
    refine ⟨rfl, rfl, hf b (fun q => ?_) (fun q => ?_)⟩
    · rw [q, sA0] at hs; simp [gsh] at hs
    · rw [q, sA1] at hs; simp [gsh] at hs
  refine ⟨⟨pO h (key _ _ s0 (by decide)), stL hL1 hL2 (key _ _ sL0 (by decide)) (key _ _ sL1 (by decide)) (key _ _ sL2 (by decide)) (key _ _ sL3 (by decide)) (fun i hi => ⟨key _ _ (rowsL hL2 hi).1 (by decide), key _ _ (rowsL hL2 hi).2.1 (by decide), key _ _ (rowsL hL2 hi).2.2.1 (by decide), key _ _ (rowsL hL2 hi).2.2.2 (by decide)⟩), stR hR (key _ _ sR0 (by decide)) (key _ _ sR1 (by decide)) (fun i hi => ⟨key _ _ (rowsR hR hi).1 (by decide), key _ _ (rowsR hR hi).2 (by decide)⟩), pC h (key _ _ sC0 (by decide)) (key _ _ sC1 (by decide)) (key _ _ sC2 (by decide)) (key _ _ sC3 (by decide)) (key _ _ sC4 (by decide)), pM0 h (key _ _ sM0 (by decide)) (key _ _ sM1 (by decide)) (key _ _ sM2 (by decide)) (key _ _ sM3 (by decide)), pE0 h ⟨rfl, rfl, hf _ d3 (fun q => ?_)⟩ ⟨rfl, rfl, hf _ (fun q => ?_) d4⟩, ⟨hE1, hV1⟩, pS0 h (key _ _ sS (by decide)), ⟨d1, d2, d3, d4⟩, hG⟩, kg⟩
  · rw [q, sA1] at sE0; simp at sE0
  · rw [q, sA0] at sE1; simp at sE1
theorem opS {g1 y1 z1 : Int} (h : WXa G sh rf mem x A la l0 l1 l2 sa ra rp ms ss ch ds lk ex ar g y z) (hS1 : wS sh mem1 A g1 y1 z1) (hf : ∀ b, b ≠ A 19 → mem1 b = mem b) : WXa G sh rf mem1 x A la l0 l1 l2 sa ra rp ms ss ch ds lk ex ar g1 y1 z1 ∧ ∀ b, G b → Un sh rf mem sh rf mem1 b := by
  obtain ⟨s0, ⟨sL0, sL1, sL2, sL3⟩, ⟨sR0, sR1⟩, ⟨sC0, sC1, sC2, sC3, sC4⟩, ⟨sM0, sM1, sM2, sM3⟩, ⟨sE0, sE1⟩, ⟨sA0, sA1⟩, sS⟩ := WXa.shp h
  have hh := h
  obtain ⟨-, ⟨hL1, hL2⟩, hR, -, -, -, -, -, hD, hG⟩ := hh
  have key : ∀ b s, sh b = s → s ≠ (8, 0) → Un sh rf mem sh rf mem1 b := by
    intro b s e e0
    subst e
    exact ⟨rfl, rfl, hf b (fun q => e0 (by rw [q]; exact sS))⟩
  have kg : ∀ b, G b → Un sh rf mem sh rf mem1 b := by
    intro b hb
    have hs := hG.1 b hb
    refine ⟨rfl, rfl, hf b (fun q => ?_)⟩
    rw [q, sS] at hs; simp [gsh] at hs
  exact ⟨⟨pO h (key _ _ s0 (by decide)), stL hL1 hL2 (key _ _ sL0 (by decide)) (key _ _ sL1 (by decide)) (key _ _ sL2 (by decide)) (key _ _ sL3 (by decide)) (fun i hi => ⟨key _ _ (rowsL hL2 hi).1 (by decide), key _ _ (rowsL hL2 hi).2.1 (by decide), key _ _ (rowsL hL2 hi).2.2.1 (by decide), key _ _ (rowsL hL2 hi).2.2.2 (by decide)⟩), stR hR (key _ _ sR0 (by decide)) (key _ _ sR1 (by decide)) (fun i hi => ⟨key _ _ (rowsR hR hi).1 (by decide), key _ _ (rowsR hR hi).2 (by decide)⟩), pC h (key _ _ sC0 (by decide)) (key _ _ sC1 (by decide)) (key _ _ sC2 (by decide)) (key _ _ sC3 (by decide)) (key _ _ sC4 (by decide)), pM0 h (key _ _ sM0 (by decide)) (key _ _ sM1 (by decide)) (key _ _ sM2 (by decide)) (key _ _ sM3 (by decide)), pE0 h (key _ _ sE0 (by decide)) (key _ _ sE1 (by decide)), pA0 h (key _ _ sA0 (by decide)) (key _ _ sA1 (by decide)), hS1, hD, hG⟩, kg⟩
/-- the world behind a call: kept is what the caller keeps -/
def WN (G : Nat → Prop) (sh : Nat → Nat × Nat) (rf : Nat → Nat → Option Nat) (mem : Nat → Nat → Int) (sh1 : Nat → Nat × Nat) (rf1 : Nat → Nat → Option Nat) (mem1 : Nat → Nat → Int) (x : Nat) (A : Nat → Nat) (rp : List Int) (ms : List (Option MemT)) (ss : List (Option SetT)) (ch : Lns) (ds : Dfs) (lk : Nat) (ex ar : List Int) (g y z : Int) : Prop :=
  (∃ la l0 l1 l2 sa ra, WXa G sh1 rf1 mem1 x A la l0 l1 l2 sa ra rp ms ss ch ds lk ex ar g y z) ∧ ∀ b, G b → Un sh rf mem sh1 rf1 mem1 b
theorem Un.rf0 {b : Nat} : Un sh rf mem sh rf mem b := ⟨rfl, rfl, rfl⟩
theorem WN.of {la l0 l1 l2 sa ra : Nat → Nat} (h : WXa G sh1 rf1 mem1 x A la l0 l1 l2 sa ra rp ms ss ch ds lk ex ar g y z ∧ ∀ b, G b → Un sh rf mem sh1 rf1 mem1 b) : WN G sh rf mem sh1 rf1 mem1 x A rp ms ss ch ds lk ex ar g y z := ⟨⟨la, l0, l1, l2, sa, ra, h.1⟩, h.2⟩
theorem WN.of2 {sh2 : Nat → Nat × Nat} {rf2 : Nat → Nat → Option Nat} {mem2 : Nat → Nat → Int} {la l0 l1 l2 sa ra : Nat → Nat} (k : ∀ b, G b → Un sh rf mem sh1 rf1 mem1 b) (h : WXa G sh2 rf2 mem2 x A la l0 l1 l2 sa ra rp ms ss ch ds lk ex ar g y z ∧ ∀ b, G b → Un sh1 rf1 mem1 sh2 rf2 mem2 b) : WN G sh rf mem sh2 rf2 mem2 x A rp ms ss ch ds lk ex ar g y z := ⟨⟨la, l0, l1, l2, sa, ra, h.1⟩, fun b hb => ⟨(h.2 b hb).1.trans (k b hb).1, (h.2 b hb).2.1.trans (k b hb).2.1, (h.2 b hb).2.2.trans (k b hb).2.2⟩⟩
end OP
