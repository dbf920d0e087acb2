/-! the law's state: the class's world and the reference's hold the same -/
section LS
variable {G : Nat → Prop} {sh sh1 : Nat → Nat × Nat} {rf rf1 : Nat → Nat → Option Nat} {mem mem1 mem2 : Nat → Nat → Int} {x m o : Nat} {A B B1 : Nat → Nat} {rp ex ar rp1 ex1 ar1 : List Int} {ms ms1 : List (Option MemT)} {ss ss1 : List (Option SetT)} {ch ch1 : Lns} {ds ds1 : Dfs} {lk lk1 : Nat} {g y z g1 y1 z1 : Int}
def LSt (G : Nat → Prop) (sh : Nat → Nat × Nat) (rf : Nat → Nat → Option Nat) (mem : Nat → Nat → Int) (x m o : Nat) (A B : Nat → Nat) (rp : List Int) (ms : List (Option MemT)) (ss : List (Option SetT)) (ch : Lns) (ds : Dfs) (lk : Nat) (ex ar : List Int) (g y z : Int) : Prop :=
  (∃ la l0 l1 l2 sa ra, WXa G sh rf mem x A la l0 l1 l2 sa ra rp ms ss ch ds lk ex ar g y z) ∧ MO sh rf m B ∧ MV m B mem rp ms ss ch ds lk ex ar g y z ∧ (G m ∧ G o ∧ ∀ f, RWb f = true → G (B f)) ∧ sh o = (14, 1) ∧ Iv ch ex ar ∧ m ≠ o ∧ ∀ f, RWb f = true → B f ≠ o
theorem MO.st (h : MO sh rf m B) (hm : sh1 m = sh m ∧ rf1 m = rf m) (hb : ∀ f, RWb f = true → sh1 (B f) = sh (B f)) : MO sh1 rf1 m B := by
  obtain ⟨mo, R4, S4, R5, S5, R6, S6, R7, S7, R8, S8, R9, S9, R10, S10, R11, S11, R12, S12, R13, S13, R14, S14, R15, S15, R16, S16, R17, S17, R19, S19, R20, S20, R21, S21, R22, S22, R25, S25, R26, S26, R27, S27, R30, S30, R31, S31, hBe, hBm, hmB⟩ := h
  exact ⟨by rw [hm.1]; exact mo, by rw [hm.2]; exact R4, by rw [hb 4 rfl]; exact S4, by rw [hm.2]; exact R5, by rw [hb 5 rfl]; exact S5, by rw [hm.2]; exact R6, by rw [hb 6 rfl]; exact S6, by rw [hm.2]; exact R7, by rw [hb 7 rfl]; exact S7, by rw [hm.2]; exact R8, by rw [hb 8 rfl]; exact S8, by rw [hm.2]; exact R9, by rw [hb 9 rfl]; exact S9, by rw [hm.2]; exact R10, by rw [hb 10 rfl]; exact S10, by rw [hm.2]; exact R11, by rw [hb 11 rfl]; exact S11, by rw [hm.2]; exact R12, by rw [hb 12 rfl]; exact S12, by rw [hm.2]; exact R13, by rw [hb 13 rfl]; exact S13, by rw [hm.2]; exact R14, by rw [hb 14 rfl]; exact S14, by rw [hm.2]; exact R15, by rw [hb 15 rfl]; exact S15, by rw [hm.2]; exact R16, by rw [hb 16 rfl]; exact S16, by rw [hm.2]; exact R17, by rw [hb 17 rfl]; exact S17, by rw [hm.2]; exact R19, by rw [hb 19 rfl]; exact S19, by rw [hm.2]; exact R20, by rw [hb 20 rfl]; exact S20, by rw [hm.2]; exact R21, by rw [hb 21 rfl]; exact S21, by rw [hm.2]; exact R22, by rw [hb 22 rfl]; exact S22, by rw [hm.2]; exact R25, by rw [hb 25 rfl]; exact S25, by rw [hm.2]; exact R26, by rw [hb 26 rfl]; exact S26, by rw [hm.2]; exact R27, by rw [hb 27 rfl]; exact S27, by rw [hm.2]; exact R30, by rw [hb 30 rfl]; exact S30, by rw [hm.2]; exact R31, by rw [hb 31 rfl]; exact S31, hBe, hBm, hmB⟩
theorem LSt.mid (h : LSt G sh rf mem x m o A B rp ms ss ch ds lk ex ar g y z) (hu : ∀ b, G b → Un sh rf mem sh1 rf1 mem1 b) : MO sh1 rf1 m B ∧ (∀ B', (∀ f, RWb f = true → B' f = B f) → MV m B' mem1 rp ms ss ch ds lk ex ar g y z) ∧ sh1 o = (14, 1) := by
  obtain ⟨-, hM, hV, ⟨gm, go, gB⟩, so, -, -⟩ := h
  refine ⟨hM.st ⟨(hu m gm).1, (hu m gm).2.1⟩ (fun f hf => (hu _ (gB f hf)).1), fun B' hB' => hV.re (fun f hf => ?_) (hu m gm).2.2, by rw [(hu o go).1]; exact so⟩
  rw [hB' f hf]
  exact (hu _ (gB f hf)).2.2
theorem LSt.next (h : LSt G sh rf mem x m o A B rp ms ss ch ds lk ex ar g y z) (w : WN G sh rf mem sh1 rf1 mem1 x A rp1 ms1 ss1 ch1 ds1 lk1 ex1 ar1 g1 y1 z1) (hM : MO sh1 rf1 m B1) (hB : ∀ f, RWb f = true → B1 f = B f) (hj : ∀ f, RWb f = false → (sh1 (B1 f)).1 = 0) (hV : MV m B1 mem2 rp1 ms1 ss1 ch1 ds1 lk1 ex1 ar1 g1 y1 z1) (hc : chA m B1 mem1 mem2) (hI : Iv ch1 ex1 ar1) : LSt G sh1 rf1 mem2 x m o A B1 rp1 ms1 ss1 ch1 ds1 lk1 ex1 ar1 g1 y1 z1 := by
  obtain ⟨-, -, -, ⟨gm, go, gB⟩, so, -, mo, bo⟩ := h
  obtain ⟨⟨la, l0, l1, l2, sa, ra, hW⟩, hu⟩ := w
  refine ⟨⟨la, l0, l1, l2, sa, ra, hW.mems (fun b hb hs => hc b (fun e => hb (e ▸ gm)) (fun f e => ?_))⟩, hM, hV, ⟨gm, go, fun f hf => by rw [hB f hf]; exact gB f hf⟩, by rw [(hu o go).1]; exact so, hI, mo, fun f hf => by rw [hB f hf]; exact bo f hf⟩
  cases c : RWb f with
  | true => rw [hB f c] at e; exact hb (e ▸ gB f c)
  | false => rw [e] at hs; exact hs (hj f c)
end LS
section LS2
variable {rp ex ar : List Int} {ms : List (Option MemT)} {ss : List (Option SetT)} {ch : Lns} {ds : Dfs} {lk : Nat} {g y z : Int}
theorem cpyS_len (f t n w : Int) : ms.length ≤ (cpyS rp ms f t n w y).length := by
  unfold cpyS
  split
  · exact cpN_len _ _ _ _ _ _
  · exact Nat.le_refl _
theorem movS_len (f t n w : Int) : ms.length ≤ (movS rp ms f t n w y).length := by
  unfold movS
  split
  · unfold mvS
    generalize (if w = -1 then n else w) = w1
    split
    · exact Nat.le_refl _
    · rw [drp_len]; exact cp1_len _ _ _ _
  · exact Nat.le_refl _
theorem mbrS_len (l n : Int) : ms.length ≤ (mbrS rp ms l n).length := by
  unfold mbrS
  split
  · simp
  · exact Nat.le_refl _
theorem linS_len (l n c : Int) : (linS ms l n c).length = ms.length := by
  unfold linS
  split
  · rfl
  · split
    · rw [List.length_set]
    · rfl
theorem cp1_le (f n t q : Int) : (cp1 rp ms f n t q).length ≤ ms.length + 1 := by
  unfold cp1
  split
  · omega
  · split
    · simp
    · rw [List.length_set]; omega
theorem cpN_le (f t w : Int) : ∀ (k : Nat) (n : Int) (ms : List (Option MemT)), (cpN rp f t w k n ms).length ≤ ms.length + k
  | 0, _, _ => Nat.le_refl _
  | k + 1, n, ms => by
    have h1 := cpN_le f t w k (n + 1) (cp1 rp ms f n t (if w = -1 then n else w))
    have h2 := cp1_le (rp := rp) (ms := ms) f n t (if w = -1 then n else w)
    rw [cpN]
    omega
theorem cpyS_le (f t n w : Int) : (cpyS rp ms f t n w y).length ≤ ms.length + 100 := by
  unfold cpyS
  split
  · refine Nat.le_trans (cpN_le _ _ _ _ _ _) ?_
    unfold nK
    split <;> omega
  · omega
theorem movS_le (f t n w : Int) : (movS rp ms f t n w y).length ≤ ms.length + 1 := by
  unfold movS
  split
  · unfold mvS
    generalize (if w = -1 then n else w) = w1
    split
    · omega
    · rw [drp_len]; exact cp1_le _ _ _ _
  · omega
def cmpP (ms : List (Option MemT)) (lk : Nat) (ds : Dfs) (a b r : Int) (es : Dfs) : Prop := ((memAt ms a = none ∨ memAt ms b = none) ∧ r = -2 ∧ es = ds) ∨ (∃ p q, memAt ms a = some p ∧ memAt ms b = some q ∧ cmR lk p.2.2 q.2.2 100 0 0 [] es ∧ r = es.length)
theorem cmpP_one {a b r r' : Int} {es es' : Dfs} (h : cmpP ms lk ds a b r es) (k : cmpP ms lk ds a b r' es') : r' = r ∧ es' = es := by
  rcases h with ⟨h1, h2, h3⟩ | ⟨p, q, h1, h2, h3, h4⟩ <;> rcases k with ⟨k1, k2, k3⟩ | ⟨p', q', k1, k2, k3, k4⟩
  · exact ⟨by rw [h2, k2], by rw [h3, k3]⟩
  · rw [k1, k2] at h1; rcases h1 with w | w <;> cases w
  · rw [h1, h2] at k1; rcases k1 with w | w <;> cases w
  · rw [h1] at k1
    rw [h2] at k2
    cases k1
    cases k2
    have e := cmR_one _ _ _ _ _ _ _ h3 k3
    subst e
    exact ⟨by rw [h4, k4], rfl⟩
def aheP (lk : Nat) (n r : Int) (lk1 : Nat) : Prop := (¬ (0 ≤ n ∧ n ≤ 9) ∧ r = -4 ∧ lk1 = lk) ∨ ((0 ≤ n ∧ n ≤ 9) ∧ r = lk ∧ lk1 = n.toNat)
theorem aheP_one {n r r' : Int} {l1 l2 : Nat} (h : aheP lk n r l1) (k : aheP lk n r' l2) : r' = r ∧ l2 = l1 := by
  unfold aheP at h k
  omega
def impP (ss : List (Option SetT)) (ar : List Int) (v r : Int) (ss1 : List (Option SetT)) (ar1 : List Int) : Prop := (¬ fitP ss ar v ∧ r = -1 ∧ ss1 = ss ∧ ar1 = []) ∨ (fitP ss ar v ∧ ¬ whP (ar ++ [v]) ∧ r = 0 ∧ ss1 = ss ∧ ar1 = ar ++ [v]) ∨ (fitP ss ar v ∧ whP (ar ++ [v]) ∧ ¬ canT ss ((ar ++ [v]).getD 1 0) ∧ r = -1 ∧ ss1 = ss ∧ ar1 = []) ∨ (fitP ss ar v ∧ whP (ar ++ [v]) ∧ canT ss ((ar ++ [v]).getD 1 0) ∧ r = toN ss (ar ++ [v]) ∧ ss1 = toS ss (ar ++ [v]) ∧ ar1 = [])
theorem impP_one {v r r' : Int} {s1 s2 : List (Option SetT)} {a1 a2 : List Int} (h : impP ss ar v r s1 a1) (k : impP ss ar v r' s2 a2) : r' = r ∧ s2 = s1 ∧ a2 = a1 := by
  rcases h with ⟨h1, h2, h3, h4⟩ | ⟨h1, h2, h3, h4, h5⟩ | ⟨h1, h2, h3, h4, h5, h6⟩ | ⟨h1, h2, h3, h4, h5, h6⟩ <;> rcases k with ⟨k1, k2, k3, k4⟩ | ⟨k1, k2, k3, k4, k5⟩ | ⟨k1, k2, k3, k4, k5, k6⟩ | ⟨k1, k2, k3, k4, k5, k6⟩ <;> first
    | exact absurd k1 h1
    | exact absurd h1 k1
    | exact absurd k2 h2
    | exact absurd h2 k2
    | exact absurd k3 h3
    | exact absurd h3 k3
    | (subst_vars; exact ⟨rfl, rfl, rfl⟩)
theorem impP_ar {v r : Int} {s1 : List (Option SetT)} {a1 : List Int} (h : impP ss ar v r s1 a1) (hA : arI ar) (h0 : 0 ≤ v) : arI a1 := by
  rcases h with ⟨h1, h2, h3, h4⟩ | ⟨h1, h2, h3, h4, h5⟩ | ⟨h1, h2, h3, h4, h5, h6⟩ | ⟨h1, h2, h3, h4, h5, h6⟩
  · rw [h4]; exact arI_nil
  · rw [h5]; exact arI_more hA h1 h0 h2
  · rw [h6]; exact arI_nil
  · rw [h6]; exact arI_nil
theorem gfitL {X : gX} {d mc ms cells slots : Nat} (hR : gRm X = room_1) (hd : d ≤ 8) (h1 : cells + mc ≤ 601024) (h2 : slots + ms ≤ 7293034) : gFit X d mc ms cells slots := by
  unfold gFit
  rw [hR]
  exact ⟨by show d + 1 ≤ 11; omega, by show 40 + 40 * d ≤ 370; omega, h1, h2⟩
theorem updS_len (q : Int) : (updS ms ch q).length = ms.length := by
  unfold updS
  split
  · rfl
  · split
    · rw [List.length_set]
    · rfl
end LS2
