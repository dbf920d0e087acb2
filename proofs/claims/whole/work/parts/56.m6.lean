section M6
variable {mem mem1 mem2 : Nat → Nat → Int} {m : Nat} {B : Nat → Nat} {ms ns : List (Option MemT)} {rp : List Int}
def flt (n j : Int) : Bool := decide (n = -1 ∨ j = n)
theorem cnt_one {n : Int} (hn : n ≠ -1) (p : Int → Bool) : ∀ (k : Nat) (s : Int), cnt (fun j => flt n j && p j) k s = if s ≤ n ∧ n < s + k then (if p n then 1 else 0) else 0
  | 0, s => by rw [cnt, if_neg (by omega)]
  | k + 1, s => by
    rw [cnt, cnt_one hn p k (s + 1)]
    by_cases e : s = n
    · subst e
      have e1 : (flt s s && p s) = p s := by simp [flt]
      rw [e1, if_neg (show ¬ (s + 1 ≤ s ∧ s < s + 1 + (k : Int)) by omega), if_pos (show s ≤ s ∧ s < s + ((k + 1 : Nat) : Int) by omega), Nat.add_zero]
    · have e1 : (flt n s && p s) = false := by simp [flt, hn, e]
      rw [e1, if_neg (show ¬ (false = true) by simp), Nat.zero_add]
      by_cases h : s + 1 ≤ n ∧ n < s + 1 + (k : Int)
      · rw [if_pos h, if_pos (show s ≤ n ∧ n < s + ((k + 1 : Nat) : Int) by omega)]
      · rw [if_neg h, if_neg (show ¬ (s ≤ n ∧ n < s + ((k + 1 : Nat) : Int)) by omega)]
theorem cnt_flt {n : Int} (h : n = -1 ∨ (0 ≤ n ∧ n < 100)) (p : Int → Bool) : cnt (fun j => flt n j && p j) 100 0 = cnt p (nK n) (nF n) := by
  by_cases e : n = -1
  · rw [nK, nF, if_pos e, if_pos e]
    have : (fun j => flt n j && p j) = p := by funext j; simp [flt, e]
    rw [this]
  · rw [nK, nF, if_neg e, if_neg e, cnt_one e, if_pos (by omega)]
    rw [cnt, cnt]
    split <;> rfl
def cpF (rp : List Int) (f t w n : Int) : Nat → Int → List (Option MemT) → List (Option MemT)
  | 0, _, ns => ns
  | k + 1, j, ns => cpF rp f t w n k (j + 1) (if flt n j = true then cp1 rp ns f j t (tn w j) else ns)
theorem cpF_all (f t w : Int) : ∀ (k : Nat) (j : Int) (ns : List (Option MemT)), cpF rp f t w (-1) k j ns = cpN rp f t w k j ns
  | 0, _, _ => rfl
  | k + 1, j, ns => by
    rw [cpF, if_pos (by simp [flt]), cpF_all f t w k (j + 1)]
    rfl
theorem cpF_one (f t w : Int) {n : Int} (hn : n ≠ -1) : ∀ (k : Nat) (j : Int) (ns : List (Option MemT)), cpF rp f t w n k j ns = if j ≤ n ∧ n < j + k then cp1 rp ns f n t (tn w n) else ns
  | 0, j, ns => by rw [if_neg (by omega)]; rfl
  | k + 1, j, ns => by
    rw [cpF, cpF_one f t w hn k (j + 1)]
    by_cases e : j = n
    · subst e
      rw [if_neg (show ¬ (j + 1 ≤ j ∧ j < j + 1 + (k : Int)) by omega), if_pos (show flt j j = true by simp [flt]), if_pos (show j ≤ j ∧ j < j + ((k + 1 : Nat) : Int) by omega)]
    · have e1 : ¬ (flt n j = true) := by simp [flt, hn, e]
      rw [if_neg e1]
      by_cases h : j + 1 ≤ n ∧ n < j + 1 + (k : Int)
      · rw [if_pos h, if_pos (show j ≤ n ∧ n < j + ((k + 1 : Nat) : Int) by omega)]
      · rw [if_neg h, if_neg (show ¬ (j ≤ n ∧ n < j + ((k + 1 : Nat) : Int)) by omega)]
theorem cpF_eq {f t w n : Int} (h : n = -1 ∨ (0 ≤ n ∧ n < 100)) : cpF rp f t w n 100 0 ms = cpN rp f t w (nK n) (nF n) ms := by
  by_cases e : n = -1
  · rw [nK, nF, if_pos e, if_pos e, e, cpF_all]
  · rw [nK, nF, if_neg e, if_neg e, cpF_one _ _ _ e, if_pos (by omega)]
    rfl
theorem frs_pt {f t w n : Int} : (cp1 rp ms f n t (tn w n)).length ≤ ms.length + (if frsB ms f t w n = true then 1 else 0) ∧ ∀ j, n + 1 ≤ j → frsB (cp1 rp ms f n t (tn w n)) f t w j = true → frsB ms f t w j = true := by
  by_cases h1 : memS ms f n = 0
  · rw [cp1_no (Or.inl h1)]; exact ⟨Nat.le_add_right _ _, fun _ _ q => q⟩
  by_cases h2 : memS ms t (tn w n) = 0
  · rw [cp1_new h1 h2]
    have e : frsB ms f t w n = true := by simp [frsB, h1, h2]
    refine ⟨by rw [if_pos e]; simp, fun j hj hp => ?_⟩
    unfold frsB at hp ⊢
    rw [decide_eq_true_eq] at hp ⊢
    rw [memS_app (y := (t, tn w n, lnsAt ms (memS ms f n))) f j h2, memS_app (y := (t, tn w n, lnsAt ms (memS ms f n))) t (tn w j) h2] at hp
    obtain ⟨p1, p2⟩ := hp
    have q1 : ¬ (t = t ∧ tn w j = tn w n) := fun q => by rw [if_pos q] at p2; omega
    rw [if_neg q1] at p2
    refine ⟨?_, p2⟩
    by_cases q2 : f = t ∧ j = tn w n
    · exfalso
      unfold tn at q1 q2
      by_cases q3 : w = -1
      · rw [if_pos q3] at q2; omega
      · rw [if_neg q3, if_neg q3] at q1; exact q1 ⟨rfl, rfl⟩
    · rw [if_neg q2] at p1; exact p1
  by_cases h3 : memS ms f n = memS ms t (tn w n)
  · rw [cp1_no (Or.inr (Or.inl h3))]; exact ⟨Nat.le_add_right _ _, fun _ _ q => q⟩
  by_cases h4 : rpl rp t
  · rw [cp1_set h1 h3 h2 h4, List.length_set]
    obtain ⟨x, x1, x2, x3⟩ := memS_is h2
    have e : ∀ l j, memS (ms.set (memS ms t (tn w n) - 1) (some (t, tn w n, lnsAt ms (memS ms f n)))) l j = memS ms l j := fun l j => memS_ext (by rw [List.length_set]) (fun i => memS_set (y := (t, tn w n, lnsAt ms (memS ms f n))) x1 x2.symm x3.symm i l j)
    refine ⟨Nat.le_add_right _ _, fun j _ q => ?_⟩
    unfold frsB at q ⊢
    rw [e, e] at q
    exact q
  · rw [cp1_no (Or.inr (Or.inr ⟨h2, h4⟩))]; exact ⟨Nat.le_add_right _ _, fun _ _ q => q⟩
theorem rm_step {f t w n j : Int} {k : Nat} (h : ns.length + cnt (fun i => flt n i && frsB ns f t w i) (k + 1) j ≤ 80) : (if flt n j = true then cp1 rp ns f j t (tn w j) else ns).length + cnt (fun i => flt n i && frsB (if flt n j = true then cp1 rp ns f j t (tn w j) else ns) f t w i) k (j + 1) ≤ 80 := by
  rw [cnt] at h
  by_cases e : flt n j = true
  · rw [if_pos e]
    obtain ⟨h1, h2⟩ := frs_pt (rp := rp) (ms := ns) (f := f) (t := t) (w := w) (n := j)
    have h3 := cnt_mono (p := fun i => flt n i && frsB (cp1 rp ns f j t (tn w j)) f t w i) (q := fun i => flt n i && frsB ns f t w i) k (j + 1) (fun i hi hp => by
      rw [Bool.and_eq_true] at hp ⊢
      exact ⟨hp.1, h2 i hi hp.2⟩)
    have e2 : (flt n j && frsB ns f t w j) = frsB ns f t w j := by rw [e]; rfl
    rw [e2] at h
    omega
  · rw [if_neg e]
    omega
theorem rm_room {f t w n j : Int} {k : Nat} (h : ns.length + cnt (fun i => flt n i && frsB ns f t w i) (k + 1) j ≤ 80) (e : flt n j = true) (h1 : memS ns f j ≠ 0) (h2 : memS ns t (tn w j) = 0) : ns.length < 80 := by
  rw [cnt, if_pos (by rw [e]; simp [frsB, h1, h2])] at h
  omega
/-- what came newly is the copy itself -/
def nwI (b : Nat) (t w : Int) (ns : List (Option MemT)) : Prop := ∀ i x, b ≤ i → ns.getD i none = some x → x.1 = t ∧ (w = -1 ∨ x.2.1 = w)
theorem nw_skip {b : Nat} {f t w j : Int} (h : nwI b t w ns) (hb : b < memS ns f j) : cp1 rp ns f j t (tn w j) = ns := by
  obtain ⟨x, x1, x2, x3⟩ := memS_is (show memS ns f j ≠ 0 by omega)
  obtain ⟨h1, h2⟩ := h _ x (by omega) x1
  refine cp1_no (Or.inr (Or.inl ?_))
  have e1 : t = f := by omega
  have e2 : tn w j = j := by
    unfold tn
    by_cases e : w = -1
    · rw [if_pos e]
    · rw [if_neg e]; omega
  rw [e1, e2]
theorem nw_step {b : Nat} {f t w j : Int} (h : nwI b t w ns) : nwI b t w (cp1 rp ns f j t (tn w j)) := by
  have tw : w = -1 ∨ tn w j = w := by
    by_cases e : w = -1
    · exact Or.inl e
    · exact Or.inr (by rw [tn, if_neg e])
  unfold cp1
  split
  · exact h
  · split
    · intro i x hi hx
      rw [getD_appM] at hx
      by_cases e : i = ns.length
      · rw [if_pos e] at hx
        cases hx
        exact ⟨rfl, tw⟩
      · rw [if_neg e] at hx
        exact h i x hi hx
    · next q2 =>
      obtain ⟨y, y1, y2, y3⟩ := memS_is q2
      intro i x hi hx
      rw [getD_setM (getD_ltM (by rw [y1]; simp))] at hx
      by_cases e : i = memS ns t (tn w j) - 1
      · rw [if_pos e] at hx
        cases hx
        exact ⟨rfl, tw⟩
      · rw [if_neg e] at hx
        exact h i x hi hx
theorem lft_iff {f t w n : Int} : lftB rp ms f t w n = true ↔ (memS ms f n ≠ 0 ∧ memS ms t (tn w n) ≠ 0 ∧ memS ms t (tn w n) ≠ memS ms f n ∧ ¬ rpl rp t) := by
  unfold lftB
  rw [decide_eq_true_eq]
theorem tn_le {w n : Int} (hw : w = -1 ∨ (0 ≤ w ∧ w < 100)) (hn : 0 ≤ n ∧ n < 100) : 0 ≤ tn w n ∧ tn w n < 100 := by
  unfold tn
  split <;> omega
theorem tn_1 {w n : Int} (h : w = -1) : tn w n = n := by rw [tn, if_pos h]
theorem tn_2 {w n : Int} (h : w ≠ -1) : tn w n = w := by rw [tn, if_neg h]
end M6
