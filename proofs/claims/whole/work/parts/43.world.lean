/-! the world of an object of the class -/
section WX
variable {G : Nat → Prop} {sh sh1 : Nat → Nat × Nat} {rf rf1 : Nat → Nat → Option Nat} {mem mem1 : Nat → Nat → Int} {x : Nat} {A la l0 l1 l2 sa ra : Nat → Nat} {rp ex ar : List Int} {ms : List (Option MemT)} {ss : List (Option SetT)} {ch : Lns} {ds : Dfs} {lk : Nat} {g y z : Int}
def Un (sh : Nat → Nat × Nat) (rf : Nat → Nat → Option Nat) (mem : Nat → Nat → Int) (sh1 : Nat → Nat × Nat) (rf1 : Nat → Nat → Option Nat) (mem1 : Nat → Nat → Int) (b : Nat) : Prop := sh1 b = sh b ∧ rf1 b = rf b ∧ mem1 b = mem b
theorem stL {a a0 a1 a2 : Nat} (hO : LbO sh rf a a0 a1 a2) (h : LbV sh rf mem a a0 a1 a2 la l0 l1 l2 rp ms) (u : Un sh rf mem sh1 rf1 mem1 a) (u0 : Un sh rf mem sh1 rf1 mem1 a0) (u1 : Un sh rf mem sh1 rf1 mem1 a1) (u2 : Un sh rf mem sh1 rf1 mem1 a2) (ul : ∀ i, ms.getD i none ≠ none → Un sh rf mem sh1 rf1 mem1 (la i) ∧ Un sh rf mem sh1 rf1 mem1 (l0 i) ∧ Un sh rf mem sh1 rf1 mem1 (l1 i) ∧ Un sh rf mem sh1 rf1 mem1 (l2 i)) : LbO sh1 rf1 a a0 a1 a2 ∧ LbV sh1 rf1 mem1 a a0 a1 a2 la l0 l1 l2 rp ms := by
  obtain ⟨ho, hr0, hr1, hr2, hs0, hs1, hs2⟩ := hO
  obtain ⟨v1, v2, v3, v4, v5, v6, v7, v8, v9⟩ := h
  refine ⟨⟨by rw [u.1]; exact ho, by rw [u.2.1]; exact hr0, by rw [u.2.1]; exact hr1, by rw [u.2.1]; exact hr2, by rw [u0.1]; exact hs0, by rw [u1.1]; exact hs1, by rw [u2.1]; exact hs2⟩, by rw [u.2.2]; exact v1, v2, by rw [u.2.2]; exact v3, v4, by rw [u0.2.2]; exact v5, fun i hi => ?_, v7, by rw [u2.2.2]; exact v8, v9⟩
  rw [u1.2.1]
  refine ⟨(v6 i hi).1, fun q hq => ?_⟩
  obtain ⟨p1, ⟨b1, b2, b3, b4, b5, b6, b7, b8⟩, p3, p4, p5⟩ := (v6 i hi).2 q hq
  obtain ⟨w, w0, w1, w2⟩ := ul i (by rw [hq]; simp)
  have hfr : mem1 (la i) = mem (la i) ∧ mem1 (l0 i) = mem (l0 i) ∧ mem1 (l1 i) = mem (l1 i) ∧ mem1 (l2 i) = mem (l2 i) := ⟨w.2.2, w0.2.2, w1.2.2, w2.2.2⟩
  exact ⟨p1, ⟨by rw [w.1]; exact b1, by rw [w.2.1]; exact b2, by rw [w.2.1]; exact b3, by rw [w.2.1]; exact b4, by rw [w0.1]; exact b5, by rw [w1.1]; exact b6, by rw [w2.1]; exact b7, b8⟩, LnI.fr hfr p3, LnV.fr hfr p4, p5⟩
theorem stR {a a0 : Nat} (h : RSs sh rf mem a a0 sa ra ss) (u : Un sh rf mem sh1 rf1 mem1 a) (u0 : Un sh rf mem sh1 rf1 mem1 a0) (ul : ∀ i, ss.getD i none ≠ none → Un sh rf mem sh1 rf1 mem1 (sa i) ∧ Un sh rf mem sh1 rf1 mem1 (ra i)) : RSs sh1 rf1 mem1 a a0 sa ra ss := by
  obtain ⟨ho, hr0, hs0, hc, hl, hv, hj⟩ := h
  refine ⟨by rw [u.1]; exact ho, by rw [u.2.1]; exact hr0, by rw [u0.1]; exact hs0, by rw [u.2.2]; exact hc, hl, fun i hi => ?_, hj⟩
  rw [u0.2.1]
  refine ⟨(hv i hi).1, fun q hq => ?_⟩
  obtain ⟨p1, ⟨b1, b2, b3⟩, p3⟩ := (hv i hi).2 q hq
  obtain ⟨w, w0⟩ := ul i (by rw [hq]; simp)
  exact ⟨p1, ⟨by rw [w.1]; exact b1, by rw [w.2.1]; exact b2, by rw [w0.1]; exact b3⟩, RsV.fr ⟨w.2.2, w0.2.2⟩ p3⟩
theorem stN {c c0 c1 c2 : Nat} {xs : Lns} (hO : LnO sh rf c c0 c1 c2) (hI : LnI mem c c0 c1 c2) (hV : LnV mem c c0 c1 c2 xs) (w : Un sh rf mem sh1 rf1 mem1 c) (w0 : Un sh rf mem sh1 rf1 mem1 c0) (w1 : Un sh rf mem sh1 rf1 mem1 c1) (w2 : Un sh rf mem sh1 rf1 mem1 c2) : LnO sh1 rf1 c c0 c1 c2 ∧ LnI mem1 c c0 c1 c2 ∧ LnV mem1 c c0 c1 c2 xs := by
  obtain ⟨b1, b2, b3, b4, b5, b6, b7, b8⟩ := hO
  have hfr : mem1 c = mem c ∧ mem1 c0 = mem c0 ∧ mem1 c1 = mem c1 ∧ mem1 c2 = mem c2 := ⟨w.2.2, w0.2.2, w1.2.2, w2.2.2⟩
  exact ⟨⟨by rw [w.1]; exact b1, by rw [w.2.1]; exact b2, by rw [w.2.1]; exact b3, by rw [w.2.1]; exact b4, by rw [w0.1]; exact b5, by rw [w1.1]; exact b6, by rw [w2.1]; exact b7, b8⟩, LnI.fr hfr hI, LnV.fr hfr hV⟩
theorem stM {c c0 c1 c2 : Nat} (hO : CmO sh rf c c0 c1 c2) (hV : CmV mem c c0 c1 c2 ds) (w : Un sh rf mem sh1 rf1 mem1 c) (w0 : Un sh rf mem sh1 rf1 mem1 c0) (w1 : Un sh rf mem sh1 rf1 mem1 c1) (w2 : Un sh rf mem sh1 rf1 mem1 c2) : CmO sh1 rf1 c c0 c1 c2 ∧ CmV mem1 c c0 c1 c2 ds := by
  obtain ⟨b1, b2, b3, b4, b5, b6, b7, b8⟩ := hO
  obtain ⟨v1, v2, v3⟩ := hV
  exact ⟨⟨by rw [w.1]; exact b1, by rw [w.2.1]; exact b2, by rw [w.2.1]; exact b3, by rw [w.2.1]; exact b4, by rw [w0.1]; exact b5, by rw [w1.1]; exact b6, by rw [w2.1]; exact b7, b8⟩, by rw [w.2.2]; exact v1, v2, by rw [w0.2.2, w1.2.2, w2.2.2]; exact v3⟩
theorem stO {c c0 : Nat} {ob : List Int} (hO : OcO sh rf c c0) (hV : OcV mem c c0 ob) (w : Un sh rf mem sh1 rf1 mem1 c) (w0 : Un sh rf mem sh1 rf1 mem1 c0) : OcO sh1 rf1 c c0 ∧ OcV mem1 c c0 ob := by
  obtain ⟨b1, b2, b3⟩ := hO
  exact ⟨⟨by rw [w.1]; exact b1, by rw [w.2.1]; exact b2, by rw [w0.1]; exact b3⟩, OcV.fr ⟨w.2.2, w0.2.2⟩ hV⟩
def wO (sh : Nat → Nat × Nat) (rf : Nat → Nat → Option Nat) (x : Nat) (A : Nat → Nat) : Prop := sh x = (9, 0) ∧ rf x 0 = some (A 0) ∧ rf x 1 = some (A 4) ∧ rf x 2 = some (A 6) ∧ rf x 3 = some (A 11) ∧ rf x 4 = some (A 15) ∧ rf x 5 = some (A 17) ∧ rf x 6 = some (A 19)
def wC (sh : Nat → Nat × Nat) (rf : Nat → Nat → Option Nat) (mem : Nat → Nat → Int) (A : Nat → Nat) (ch : Lns) : Prop := CtO sh rf (A 6) (A 7) ∧ LnO sh rf (A 7) (A 8) (A 9) (A 10) ∧ LnI mem (A 7) (A 8) (A 9) (A 10) ∧ LnV mem (A 7) (A 8) (A 9) (A 10) ch
def wM (sh : Nat → Nat × Nat) (rf : Nat → Nat → Option Nat) (mem : Nat → Nat → Int) (A : Nat → Nat) (ds : Dfs) (lk : Nat) : Prop := CmO sh rf (A 11) (A 12) (A 13) (A 14) ∧ CmV mem (A 11) (A 12) (A 13) (A 14) ds ∧ mem (A 11) 4 = lk ∧ lk ≤ 9
def wS (sh : Nat → Nat × Nat) (mem : Nat → Nat → Int) (A : Nat → Nat) (g y z : Int) : Prop := sh (A 19) = (8, 0) ∧ mem (A 19) 0 = g ∧ mem (A 19) 1 = y ∧ mem (A 19) 2 = z ∧ 0 ≤ g ∧ g ≤ 12 ∧ (y = 0 ∨ y = 1)
def wD (A la l0 l1 l2 ra : Nat → Nat) (ms : List (Option MemT)) (ss : List (Option SetT)) : Prop := (∀ i, ms.getD i none ≠ none → LnD (la i) (l0 i) (l1 i) (l2 i) (A 7) (A 8) (A 9) (A 10)) ∧ (∀ i, ss.getD i none ≠ none → ra i ≠ A 12 ∧ ra i ≠ A 13 ∧ ra i ≠ A 14) ∧ A 15 ≠ A 17 ∧ A 16 ≠ A 18
def gsh (s : Nat × Nat) : Prop := s.1 = 10 ∨ s.1 = 12 ∨ (s.1 = 13 ∧ s ≠ (13, 6)) ∨ s.1 = 14
def wG0 (G : Nat → Prop) (sh : Nat → Nat × Nat) (A l0 l1 ra : Nat → Nat) (ms : List (Option MemT)) (ss : List (Option SetT)) : Prop := (∀ b, G b → gsh (sh b)) ∧ ¬ G (A 3) ∧ (∀ i, ms.getD i none ≠ none → ¬ G (l0 i) ∧ ¬ G (l1 i)) ∧ (∀ i, ss.getD i none ≠ none → ¬ G (ra i)) ∧ ¬ G (A 8) ∧ ¬ G (A 9) ∧ ¬ G (A 12) ∧ ¬ G (A 13) ∧ ¬ G (A 14)
/-- the world, its addresses named -/
def WXa (G : Nat → Prop) (sh : Nat → Nat × Nat) (rf : Nat → Nat → Option Nat) (mem : Nat → Nat → Int) (x : Nat) (A la l0 l1 l2 sa ra : Nat → Nat) (rp : List Int) (ms : List (Option MemT)) (ss : List (Option SetT)) (ch : Lns) (ds : Dfs) (lk : Nat) (ex ar : List Int) (g y z : Int) : Prop :=
  wO sh rf x A ∧ (LbO sh rf (A 0) (A 1) (A 2) (A 3) ∧ LbV sh rf mem (A 0) (A 1) (A 2) (A 3) la l0 l1 l2 rp ms) ∧ RSs sh rf mem (A 4) (A 5) sa ra ss ∧ wC sh rf mem A ch ∧ wM sh rf mem A ds lk ∧ (OcO sh rf (A 15) (A 16) ∧ OcV mem (A 15) (A 16) ex) ∧ (OcO sh rf (A 17) (A 18) ∧ OcV mem (A 17) (A 18) ar) ∧ wS sh mem A g y z ∧ wD A la l0 l1 l2 ra ms ss ∧ wG0 G sh A l0 l1 ra ms ss
theorem rowsL {a a0 a1 a2 : Nat} (h : LbV sh rf mem a a0 a1 a2 la l0 l1 l2 rp ms) {i : Nat} (hi : ms.getD i none ≠ none) : sh (la i) = (4, 0) ∧ sh (l0 i) = (12, 30) ∧ sh (l1 i) = (12, 30) ∧ sh (l2 i) = (11, 300) := by
  obtain ⟨q, hq⟩ := Option.ne_none_iff_exists'.mp hi
  obtain ⟨p1, ⟨b1, b2, b3, b4, b5, b6, b7, b8⟩, -⟩ := (h.2.2.2.2.2.1 i (getD_ltM hi)).2 q hq
  exact ⟨b1, b5, b6, b7⟩
theorem rowsR {a a0 : Nat} (h : RSs sh rf mem a a0 sa ra ss) {i : Nat} (hi : ss.getD i none ≠ none) : sh (sa i) = (6, 0) ∧ sh (ra i) = (12, 60) := by
  obtain ⟨q, hq⟩ := Option.ne_none_iff_exists'.mp hi
  obtain ⟨p1, ⟨b1, b2, b3⟩, -⟩ := (h.2.2.2.2.2.1 i (getD_lt hi)).2 q hq
  exact ⟨b1, b3⟩
/-- what stands of the world where its cells stand -/
theorem WXa.stand {Q : Nat → Prop} (h : WXa G sh rf mem x A la l0 l1 l2 sa ra rp ms ss ch ds lk ex ar g y z) (hu : ∀ b, ¬ Q b → Un sh rf mem sh1 rf1 mem1 b) (q0 : ¬ Q x) (qL : (¬ Q (A 0) ∧ ¬ Q (A 1) ∧ ¬ Q (A 2) ∧ ¬ Q (A 3)) ∧ ∀ i, ms.getD i none ≠ none → ¬ Q (la i) ∧ ¬ Q (l0 i) ∧ ¬ Q (l1 i) ∧ ¬ Q (l2 i)) (qR : (¬ Q (A 4) ∧ ¬ Q (A 5)) ∧ ∀ i, ss.getD i none ≠ none → ¬ Q (sa i) ∧ ¬ Q (ra i)) (qC : ¬ Q (A 6) ∧ ¬ Q (A 7) ∧ ¬ Q (A 8) ∧ ¬ Q (A 9) ∧ ¬ Q (A 10)) (qM : ¬ Q (A 11) ∧ ¬ Q (A 12) ∧ ¬ Q (A 13) ∧ ¬ Q (A 14)) (qE : ¬ Q (A 15) ∧ ¬ Q (A 16)) (qA : ¬ Q (A 17) ∧ ¬ Q (A 18)) (qS : ¬ Q (A 19)) (qG : ∀ b, G b → sh1 b = sh b) : WXa G sh1 rf1 mem1 x A la l0 l1 l2 sa ra rp ms ss ch ds lk ex ar g y z := by
  obtain ⟨hO, ⟨hL1, hL2⟩, hR, ⟨hC1, hC2, hC3, hC4⟩, ⟨hM1, hM2, hM3, hM4⟩, hE, hA, hS, hD, hG⟩ := h
  refine ⟨?_, stL hL1 hL2 (hu _ qL.1.1) (hu _ qL.1.2.1) (hu _ qL.1.2.2.1) (hu _ qL.1.2.2.2) (fun i hi => ?_), stR hR (hu _ qR.1.1) (hu _ qR.1.2) (fun i hi => ?_), ⟨?_, stN hC2 hC3 hC4 (hu _ qC.2.1) (hu _ qC.2.2.1) (hu _ qC.2.2.2.1) (hu _ qC.2.2.2.2)⟩, ?_, stO hE.1 hE.2 (hu _ qE.1) (hu _ qE.2), stO hA.1 hA.2 (hu _ qA.1) (hu _ qA.2), ?_, hD, ?_⟩
  · obtain ⟨o1, o2⟩ := hO
    have u := hu _ q0
    refine ⟨by rw [u.1]; exact o1, ?_⟩
    rw [u.2.1]
    exact o2
  · exact ⟨hu _ (qL.2 i hi).1, hu _ (qL.2 i hi).2.1, hu _ (qL.2 i hi).2.2.1, hu _ (qL.2 i hi).2.2.2⟩
  · exact ⟨hu _ (qR.2 i hi).1, hu _ (qR.2 i hi).2⟩
  · have u := hu _ qC.1
    exact ⟨by rw [u.1]; exact hC1.1, by rw [u.2.1]; exact hC1.2⟩
  · obtain ⟨k1, k2⟩ := stM hM1 hM2 (hu _ qM.1) (hu _ qM.2.1) (hu _ qM.2.2.1) (hu _ qM.2.2.2)
    exact ⟨k1, k2, by rw [(hu _ qM.1).2.2]; exact hM3, hM4⟩
  · have u := hu _ qS
    unfold wS
    rw [u.1, u.2.2]
    exact hS
  · exact ⟨fun b hb => by rw [qG b hb]; exact hG.1 b hb, hG.2⟩
end WX
