/-! what the common state keeps -/
section PU
variable {G : Nat → Prop} {sh sh1 : Nat → Nat × Nat} {rf rf1 : Nat → Nat → Option Nat} {mem mem1 : Nat → Nat → Int} {x : Nat} {A la l0 l1 l2 sa ra : Nat → Nat} {rp ex ar : List Int} {ms : List (Option MemT)} {ss : List (Option SetT)} {ch : Lns} {ds : Dfs} {lk : Nat} {g y z : Int}
theorem LnV.ok {a a0 a1 a2 : Nat} {xs : Lns} (hi : LnI mem a a0 a1 a2) (hv : LnV mem a a0 a1 a2 xs) : okL xs := by
  have h1 := hv.1
  have h2 := hi.2.1
  refine ⟨by omega, fun j => ?_⟩
  have h3 := LnV.len hi hv j
  refine ⟨h3.1, h3.2.1, h3.2.2, fun i => ?_⟩
  by_cases c : j < xs.length
  · by_cases d : i < (sg xs j).length
    · have e := (hv.2 j c).2.2 i d
      have b := hi.2.2.2.2 (10 * j + i)
      omega
    · rw [getD_out (by omega)]; omega
  · rw [sg_out (by omega)]; simp
theorem OcV.by {a a0 : Nat} {ob : List Int} (hv : OcV mem a a0 ob) : ∀ j, 0 ≤ ob.getD j 0 ∧ ob.getD j 0 < 256 := fun j => OcV.at hv j
/-- what the reference's contracts ask of the common state, out of the class's world -/
theorem WXa.ok (h : WXa G sh rf mem x A la l0 l1 l2 sa ra rp ms ss ch ds lk ex ar g y z) : okR rp ∧ okM ms ∧ okS ss ∧ okL ch ∧ ds.length ≤ 60 ∧ lk ≤ 9 ∧ ex.length ≤ 244 ∧ (∀ j, 0 ≤ ex.getD j 0 ∧ ex.getD j 0 < 256) ∧ (∀ j, 0 ≤ ar.getD j 0 ∧ ar.getD j 0 < 256) ∧ (0 ≤ g ∧ g ≤ 12 ∧ (y = 0 ∨ y = 1)) := by
  obtain ⟨-, ⟨-, v1, v2, v3, v4, v5, v6, v7, v8, v9⟩, ⟨-, -, -, -, r5, r6, -⟩, ⟨-, -, c3, c4⟩, ⟨-, m2, -, m4⟩, ⟨-, e2⟩, ⟨-, a2⟩, ⟨-, -, -, -, s5, s6, s7⟩, -⟩ := h
  refine ⟨⟨v2, fun i hi => (v5 i hi).2⟩, ⟨v4, fun i q hq => ?_⟩, ⟨r5, fun i q hq => ?_⟩, LnV.ok c3 c4, m2.2.1, m4, e2.2.1, OcV.by e2, OcV.by a2, s5, s6, s7⟩
  · obtain ⟨-, -, p3, p4, p5, p6, p7, p8⟩ := (v6 i (getD_ltM (by rw [hq]; simp))).2 q hq
    exact ⟨p5, by omega, p7, p8, LnV.ok p3 p4⟩
  · obtain ⟨-, -, q1, q2, q3, q4, q5, q6, q7, q8, q9, q10⟩ := (r6 i (getD_lt (by rw [hq]; simp))).2 q hq
    exact ⟨q7, q8, q9, q5, q6⟩
def Iv (ch : Lns) (ex ar : List Int) : Prop := (ch.length ≤ 20 ∧ ∀ i, i < ch.length → 1 ≤ nu ch i) ∧ ex.length % 4 = 0 ∧ arI ar
theorem Iv.okC (h : Iv ch ex ar) (hl : okL ch) : okC ch := ⟨h.1.1, fun j => ⟨(hl.2 j).1, fun hj => ⟨h.1.2 j hj, (hl.2 j).2.2.1⟩⟩⟩
theorem Iv.exp {n : Int} (h : Iv ch ex ar) (k : okS ss) : Iv ch (expS ss ex n) ar := by
  refine ⟨h.1, ?_, h.2.2⟩
  cases e : setAt ss n with
  | none =>
    have : expS ss ex n = ex := by rw [expS, e]
    rw [this]; exact h.2.1
  | some q =>
    have : expS ss ex n = expo q.1 q.2.1 q.2.2.1 q.2.2.2 := by rw [expS, e]
    have w := k.2 _ _ (setAt_some e).2.2
    rw [this, expo_len4 _ _ _ _ w.2.2.2.2]
    omega
theorem Iv.upd {q : Int} (h : Iv ch ex ar) : Iv (updC ms ch q) ex ar := by
  refine ⟨?_, h.2⟩
  cases e : memAt ms q with
  | none =>
    have : updC ms ch q = ch := by rw [updC, e]
    rw [this]; exact h.1
  | some _ =>
    have : updC ms ch q = [] := by rw [updC, e]
    rw [this]; exact ⟨Nat.zero_le _, fun i hi => absurd hi (Nat.not_lt_zero i)⟩
theorem chI_app {n : Int} {s : List Int} (h : ch.length ≤ 20 ∧ ∀ i, i < ch.length → 1 ≤ nu ch i) (hl : ch.length < 20) (hn : 1 ≤ n) : (ch ++ [(n, s)]).length ≤ 20 ∧ ∀ i, i < (ch ++ [(n, s)]).length → 1 ≤ nu (ch ++ [(n, s)]) i := by
  refine ⟨by simp; omega, fun i hi => ?_⟩
  rw [nu_snd]
  by_cases c : i = ch.length
  · rw [if_pos c]; exact hn
  · rw [if_neg c]
    exact h.2 i (by simp at hi; omega)
theorem chI_add {k : Nat} {c : Int} (h : ch.length ≤ 20 ∧ ∀ i, i < ch.length → 1 ≤ nu ch i) : (lnAdd ch k c).length ≤ 20 ∧ ∀ i, i < (lnAdd ch k c).length → 1 ≤ nu (lnAdd ch k c) i := by
  unfold lnAdd
  by_cases q : k < ch.length ∧ (sg ch k).length < 10
  · rw [if_pos q]
    refine ⟨by rw [List.length_set]; exact h.1, fun i hi => ?_⟩
    rw [List.length_set] at hi
    rw [nu_set _ q.1]
    by_cases e : i = k
    · rw [if_pos e]; exact h.2 k q.1
    · rw [if_neg e]; exact h.2 i hi
  · rw [if_neg q]; exact h
theorem Iv.chg {n c : Int} {ys : Lns} (h : Iv ch ex ar) (k : chR ch n c ys) : Iv ys ex ar := by
  refine ⟨?_, h.2⟩
  obtain ⟨k1, k2, k3, k4⟩ := k
  by_cases hn : 1 ≤ n ∧ n ≤ 9999
  · by_cases hc : c = 0
    · rw [k3 hn hc, chDel]
      by_cases hl : ch.length < 20
      · rw [if_pos hl]; exact chI_app h.1 hl hn.1
      · rw [if_neg hl]; exact h.1
    · by_cases hs : 32 ≤ c ∧ c ≤ 126
      · obtain ⟨a1, a2, a3⟩ := k4 hn hs
        by_cases ht : tk ch n
        · rw [a1 ht]; exact chI_add h.1
        · by_cases hl : ch.length < 20
          · rw [a2 ht hl]; exact chI_add (chI_app h.1 hl hn.1)
          · rw [a3 ht hl]; exact h.1
      · rw [k2 (fun w => w.elim hc hs)]; exact h.1
  · rw [k1 hn]; exact h.1
theorem chR_one {n c : Int} {ys zs : Lns} (h : chR ch n c ys) (k : chR ch n c zs) : ys = zs := by
  by_cases hn : 1 ≤ n ∧ n ≤ 9999
  · by_cases hc : c = 0
    · rw [h.2.2.1 hn hc, k.2.2.1 hn hc]
    · by_cases hs : 32 ≤ c ∧ c ≤ 126
      · obtain ⟨a1, a2, a3⟩ := h.2.2.2 hn hs
        obtain ⟨b1, b2, b3⟩ := k.2.2.2 hn hs
        by_cases ht : tk ch n
        · rw [a1 ht, b1 ht]
        · by_cases hl : ch.length < 20
          · rw [a2 ht hl, b2 ht hl]
          · rw [a3 ht hl, b3 ht hl]
      · rw [h.2.1 (fun w => w.elim hc hs), k.2.1 (fun w => w.elim hc hs)]
  · rw [h.1 hn, k.1 hn]
/-- the world where no cell of its own is written -/
theorem WXa.mems (h : WXa G sh rf mem x A la l0 l1 l2 sa ra rp ms ss ch ds lk ex ar g y z) (hu : ∀ b, ¬ G b → (sh b).1 ≠ 0 → mem1 b = mem b) : WXa G sh rf mem1 x A la l0 l1 l2 sa ra rp ms ss ch ds lk ex ar g y z := by
  have h9 := h
  obtain ⟨⟨ho, -⟩, ⟨hL, hLv⟩, hR, ⟨hCt, hCo, -, -⟩, ⟨hMo, -, -, -⟩, ⟨hEo, -⟩, ⟨hAo, -⟩, ⟨hSo, -⟩, -, hG1, hG2, hG3, hG4, hG5, hG6, hG7, hG8, hG9⟩ := h
  have ng : ∀ b c n, sh b = (c, n) → c ≠ 0 → (c < 10 ∨ c = 11 ∨ c = 15 ∨ c = 16) → ¬ (G b ∨ (sh b).1 = 0) := fun b c n e h0 h1 q => by
    rcases q with q | q
    · have w := hG1 b q
      rw [e] at w
      unfold gsh at w
      simp only at w
      omega
    · rw [e] at q; exact h0 q
  have nz : ∀ b c n, sh b = (c, n) → c ≠ 0 → ¬ G b → ¬ (G b ∨ (sh b).1 = 0) := fun b c n e h0 h1 q => by
    rcases q with q | q
    · exact h1 q
    · rw [e] at q; exact h0 q
  have n6 : ¬ (G (A 1) ∨ (sh (A 1)).1 = 0) := fun q => by
    rcases q with q | q
    · have w := hG1 _ q
      rw [hL.2.2.2.2.1] at w
      unfold gsh at w
      simp at w
    · rw [hL.2.2.2.2.1] at q; cases q
  refine WXa.stand (Q := fun b => G b ∨ (sh b).1 = 0) h9 (fun b hb => ⟨rfl, rfl, hu b (fun w => hb (Or.inl w)) (fun w => hb (Or.inr w))⟩) (ng _ _ _ ho (by decide) (by decide)) ⟨⟨ng _ _ _ hL.1 (by decide) (by decide), n6, ng _ _ _ hL.2.2.2.2.2.1 (by decide) (by decide), nz _ _ _ hL.2.2.2.2.2.2 (by decide) hG2⟩, fun i hi => ?_⟩ ⟨⟨ng _ _ _ hR.1 (by decide) (by decide), ng _ _ _ hR.2.2.1 (by decide) (by decide)⟩, fun i hi => ?_⟩ ⟨ng _ _ _ hCt.1 (by decide) (by decide), ng _ _ _ hCo.1 (by decide) (by decide), nz _ _ _ hCo.2.2.2.2.1 (by decide) hG5, nz _ _ _ hCo.2.2.2.2.2.1 (by decide) hG6, ng _ _ _ hCo.2.2.2.2.2.2.1 (by decide) (by decide)⟩ ⟨ng _ _ _ hMo.1 (by decide) (by decide), nz _ _ _ hMo.2.2.2.2.1 (by decide) hG7, nz _ _ _ hMo.2.2.2.2.2.1 (by decide) hG8, nz _ _ _ hMo.2.2.2.2.2.2.1 (by decide) hG9⟩ ⟨ng _ _ _ hEo.1 (by decide) (by decide), ng _ _ _ hEo.2.2 (by decide) (by decide)⟩ ⟨ng _ _ _ hAo.1 (by decide) (by decide), ng _ _ _ hAo.2.2 (by decide) (by decide)⟩ (ng _ _ _ hSo (by decide) (by decide)) (fun _ _ => rfl)
  · obtain ⟨k1, k2, k3, k4⟩ := rowsL hLv hi
    exact ⟨ng _ _ _ k1 (by decide) (by decide), nz _ _ _ k2 (by decide) (hG3 i hi).1, nz _ _ _ k3 (by decide) (hG3 i hi).2, ng _ _ _ k4 (by decide) (by decide)⟩
  · obtain ⟨k1, k2⟩ := rowsR hR hi
    exact ⟨ng _ _ _ k1 (by decide) (by decide), nz _ _ _ k2 (by decide) (hG4 i hi)⟩
end PU
