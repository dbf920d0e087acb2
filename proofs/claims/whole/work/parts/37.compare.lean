/-! Comparison: the differences of two members -/
abbrev Dfs : Type := List (Int × Int × Int)
def CmO (sh : Nat → Nat × Nat) (rf : Nat → Nat → Option Nat) (a a0 a1 a2 : Nat) : Prop := sh a = (2, 0) ∧ rf a 0 = some a0 ∧ rf a 1 = some a1 ∧ rf a 2 = some a2 ∧ sh a0 = (12, 60) ∧ sh a1 = (12, 60) ∧ sh a2 = (12, 60) ∧ a0 ≠ a1 ∧ a0 ≠ a2 ∧ a1 ≠ a2
def df (ds : Dfs) (i : Nat) : Int × Int × Int := ds.getD i (0, 0, 0)
def CmV (mem : Nat → Nat → Int) (a a0 a1 a2 : Nat) (ds : Dfs) : Prop := mem a 3 = ds.length ∧ ds.length ≤ 60 ∧ ∀ i, i < ds.length → mem a0 i = (df ds i).1 ∧ mem a1 i = (df ds i).2.1 ∧ mem a2 i = (df ds i).2.2
theorem CmO.ne {sh : Nat → Nat × Nat} {rf : Nat → Nat → Option Nat} {a a0 a1 a2 : Nat} (h : CmO sh rf a a0 a1 a2) : a ≠ a0 ∧ a ≠ a1 ∧ a ≠ a2 := by
  obtain ⟨ho, -, -, -, hs0, hs1, hs2, -⟩ := h
  refine ⟨?_, ?_, ?_⟩ <;> rintro rfl <;> simp_all
theorem df_app {ds : Dfs} {v : Int × Int × Int} (i : Nat) : df (ds ++ [v]) i = if i = ds.length then v else df ds i := by
  unfold df
  rw [List.getD_eq_getElem?_getD, List.getD_eq_getElem?_getD]
  by_cases h : i < ds.length
  · rw [List.getElem?_append_left h, if_neg (by omega)]
  · rw [List.getElem?_append_right (by omega)]
    by_cases h2 : i = ds.length
    · subst h2
      simp
    · rw [if_neg h2, List.getElem?_eq_none (by simp; omega), List.getElem?_eq_none (by omega)]
theorem CmV_app {sh : Nat → Nat × Nat} {rf : Nat → Nat → Option Nat} {mem mem1 : Nat → Nat → Int} {a a0 a1 a2 : Nat} {ds : Dfs} {k f s : Int} (hO : CmO sh rf a a0 a1 a2) (hv : CmV mem a a0 a1 a2 ds) (h : ds.length < 60) (e : mem1 = gup (gup (gup (gup mem a0 ds.length k) a1 ds.length f) a2 ds.length s) a 3 (ds.length + 1)) : CmV mem1 a a0 a1 a2 (ds ++ [(k, f, s)]) ∧ Fr4 mem mem1 a a0 a1 a2 ∧ ∀ j, j ≠ 3 → mem1 a j = mem a j := by
  obtain ⟨n1, n2, n3⟩ := hO.ne
  obtain ⟨-, -, -, -, -, -, -, n4, n5, n6⟩ := hO
  obtain ⟨v1, v2, v3⟩ := hv
  have x1 := n1.symm; have x2 := n2.symm; have x3 := n3.symm; have x4 := n4.symm; have x5 := n5.symm; have x6 := n6.symm
  subst e
  refine ⟨⟨?_, ?_, ?_⟩, ?_, ?_⟩
  · rw [gup_s]; simp
  · simp; omega
  · intro i hi
    rw [df_app]
    by_cases q : i = ds.length
    · subst q
      rw [if_pos rfl]
      refine ⟨?_, ?_, ?_⟩
      · rw [gup_a _ _ _ _ x1, gup_a _ _ _ _ n5, gup_a _ _ _ _ n4, gup_s]
      · rw [gup_a _ _ _ _ x2, gup_a _ _ _ _ n6, gup_s]
      · rw [gup_a _ _ _ _ x3, gup_s]
    · rw [if_neg q]
      have q2 : i < ds.length := by simp at hi; omega
      obtain ⟨z1, z2, z3⟩ := v3 i q2
      refine ⟨?_, ?_, ?_⟩
      · rw [gup_a _ _ _ _ x1, gup_a _ _ _ _ n5, gup_a _ _ _ _ n4, gup_k _ _ _ _ q]; exact z1
      · rw [gup_a _ _ _ _ x2, gup_a _ _ _ _ n6, gup_k _ _ _ _ q, gup_a _ _ _ _ x4]; exact z2
      · rw [gup_a _ _ _ _ x3, gup_k _ _ _ _ q, gup_a _ _ _ _ x6, gup_a _ _ _ _ x5]; exact z3
  · intro b b1 b2 b3 b4
    funext j
    rw [gup_a _ _ _ _ b1, gup_a _ _ _ _ b4, gup_a _ _ _ _ b3, gup_a _ _ _ _ b2]
  · intro j hj
    rw [gup_k _ _ _ _ hj, gup_a _ _ _ _ n3, gup_a _ _ _ _ n2, gup_a _ _ _ _ n1]
theorem CmLn {sh : Nat → Nat × Nat} {rf : Nat → Nat → Option Nat} {mem mem1 : Nat → Nat → Int} {a a0 a1 a2 b b0 b1 b2 : Nat} (hO : CmO sh rf a a0 a1 a2) (hOb : LnO sh rf b b0 b1 b2) (hf : Fr4 mem mem1 a a0 a1 a2) : mem1 b = mem b ∧ mem1 b0 = mem b0 ∧ mem1 b1 = mem b1 ∧ mem1 b2 = mem b2 := by
  obtain ⟨ho, -, -, -, hs0, hs1, hs2, -⟩ := hO
  obtain ⟨bo, -, -, -, bs0, bs1, bs2, -⟩ := hOb
  refine ⟨hf b ?_ ?_ ?_ ?_, hf b0 ?_ ?_ ?_ ?_, hf b1 ?_ ?_ ?_ ?_, hf b2 ?_ ?_ ?_ ?_⟩ <;> rintro rfl <;> simp_all
/-- the difference of one side alone; those of some lines -/
def kx (k v : Int) : Int × Int × Int := (k, if k = 1 then v else 0, if k = 2 then v else 0)
def kl (k : Int) (xs : Lns) (f : Nat) : Nat → Dfs
  | 0 => []
  | n + 1 => kl k xs f n ++ [kx k (nu xs (f + n))]
theorem kl_len (k : Int) (xs : Lns) (f : Nat) : ∀ n, (kl k xs f n).length = n
  | 0 => rfl
  | n + 1 => by simp [kl, kl_len k xs f n]
def okP (xs ys : Lns) (x y : Nat) : Prop := x < xs.length ∧ y < ys.length ∧ sg xs x = sg ys y
def Mn (look : Nat) (xs ys : Lns) (i j : Nat) (p : Nat × Nat) : Prop := 1 ≤ p.1 ∧ p.1 ≤ look ∧ p.2 ≤ p.1 ∧ okP xs ys (i + p.2) (j + p.1 - p.2) ∧ ∀ q : Nat × Nat, 1 ≤ q.1 → q.2 ≤ q.1 → (q.1 < p.1 ∨ q.1 = p.1 ∧ q.2 < p.2) → ¬ okP xs ys (i + q.2) (j + q.1 - q.2)
theorem Mn_one {look : Nat} {xs ys : Lns} {i j : Nat} {p q : Nat × Nat} (hp : Mn look xs ys i j p) (hq : Mn look xs ys i j q) : p = q := by
  obtain ⟨p1, p2, p3, p4, p5⟩ := hp
  obtain ⟨q1, q2, q3, q4, q5⟩ := hq
  rcases Nat.lt_trichotomy p.1 q.1 with h | h | h
  · exact absurd p4 (q5 p p1 p3 (Or.inl h))
  · rcases Nat.lt_trichotomy p.2 q.2 with h2 | h2 | h2
    · exact absurd p4 (q5 p p1 p3 (Or.inr ⟨h, h2⟩))
    · exact Prod.ext h h2
    · exact absurd q4 (p5 q q1 q3 (Or.inr ⟨h.symm, h2⟩))
  · exact absurd q4 (p5 q q1 q3 (Or.inl h))
/-- the comparison, from lines i and j on, with f rounds left -/
def cmR (look : Nat) (xs ys : Lns) : Nat → Nat → Nat → Dfs → Dfs → Prop
  | 0, _, _, _, _ => False
  | f + 1, i, j, ds, es =>
    (¬ (i < xs.length ∧ j < ys.length) ∧ es = ds ++ kl 1 xs i (xs.length - i) ++ kl 2 ys j (ys.length - j)) ∨
    (i < xs.length ∧ j < ys.length ∧ sg xs i = sg ys j ∧ cmR look xs ys f (i + 1) (j + 1) ds es) ∨
    (i < xs.length ∧ j < ys.length ∧ sg xs i ≠ sg ys j ∧ ∃ p, Mn look xs ys i j p ∧ cmR look xs ys f (i + p.2) (j + (p.1 - p.2)) (ds ++ kl 1 xs i p.2 ++ kl 2 ys j (p.1 - p.2)) es) ∨
    (i < xs.length ∧ j < ys.length ∧ sg xs i ≠ sg ys j ∧ (∀ q : Nat × Nat, 1 ≤ q.1 → q.1 ≤ look → q.2 ≤ q.1 → ¬ okP xs ys (i + q.2) (j + q.1 - q.2)) ∧ cmR look xs ys f (i + 1) (j + 1) (ds ++ [(3, nu xs i, nu ys j)]) es)
/-- two comparisons of the same lines come to the same -/
theorem cmR_one {look : Nat} {xs ys : Lns} : ∀ (f g i j : Nat) (ds es fs : Dfs), cmR look xs ys f i j ds es → cmR look xs ys g i j ds fs → es = fs
  | 0, _, _, _, _, _, _, h, _ => h.elim
  | _ + 1, 0, _, _, _, _, _, _, h => h.elim
  | f + 1, g + 1, i, j, ds, es, fs, h, k => by
    rcases h with ⟨h1, h2⟩ | ⟨h1, h2, h3, h4⟩ | ⟨h1, h2, h3, p, h4, h5⟩ | ⟨h1, h2, h3, h4, h5⟩ <;> rcases k with ⟨k1, k2⟩ | ⟨k1, k2, k3, k4⟩ | ⟨k1, k2, k3, q, k4, k5⟩ | ⟨k1, k2, k3, k4, k5⟩
    · rw [h2, k2]
    · exact absurd ⟨k1, k2⟩ h1
    · exact absurd ⟨k1, k2⟩ h1
    · exact absurd ⟨k1, k2⟩ h1
    · exact absurd ⟨h1, h2⟩ k1
    · exact cmR_one f g _ _ _ _ _ h4 k4
    · exact absurd h3 k3
    · exact absurd h3 k3
    · exact absurd ⟨h1, h2⟩ k1
    · exact absurd k3 h3
    · have e := Mn_one h4 k4
      subst e
      exact cmR_one f g _ _ _ _ _ h5 k5
    · exact absurd h4.2.2.2.1 (k4 p h4.1 h4.2.1 h4.2.2.1)
    · exact absurd ⟨h1, h2⟩ k1
    · exact absurd k3 h3
    · exact absurd k4.2.2.2.1 (h4 q k4.1 k4.2.1 k4.2.2.1)
    · exact cmR_one f g _ _ _ _ _ h5 k5
theorem cmR_more {look : Nat} {xs ys : Lns} : ∀ (f i j : Nat) (ds es : Dfs), cmR look xs ys f i j ds es → cmR look xs ys (f + 1) i j ds es
  | 0, _, _, _, _, h => h.elim
  | f + 1, i, j, ds, es, h => by
    rcases h with h | ⟨h1, h2, h3, h4⟩ | ⟨h1, h2, h3, p, h4, h5⟩ | ⟨h1, h2, h3, h4, h5⟩
    · exact Or.inl h
    · exact Or.inr (Or.inl ⟨h1, h2, h3, cmR_more f _ _ _ _ h4⟩)
    · exact Or.inr (Or.inr (Or.inl ⟨h1, h2, h3, p, h4, cmR_more f _ _ _ _ h5⟩))
    · exact Or.inr (Or.inr (Or.inr ⟨h1, h2, h3, h4, cmR_more f _ _ _ _ h5⟩))
set_option maxHeartbeats 4000000 in
set_option maxRecDepth 100000 in
theorem kX1_size (l : Launch) (D : va_G) (ac : Nat → ClassId) {sh : Nat → Nat × Nat} {rf : Nat → Nat → Option Nat} {mem : Nat → Nat → Int} (a a0 a1 a2 : Nat) (ds : Dfs) (hO : CmO sh rf a a0 a1 a2) (hv : CmV mem a a0 a1 a2 ds) : gMet l D ac mX1_size 0 [.ref a] 0 0 sh rf mem (pP sh rf mem (fun r => r = ds.length)) := by
  refine gMet.mk (by decide) (by intro v hv; simp at hv; (try rcases hv with rfl) <;> rfl) (Nat.le_of_ble_eq_true rfl) (fun X hC hI => ?_)
  show gG X sh rf mem 0 0 0 [some (.ref a)] []
  have hO9 := hO
  have hv9 := hv
  obtain ⟨n1, n2, n3⟩ := hO.ne
  obtain ⟨ho, hr0, hr1, hr2, hs0, hs1, hs2, n4, n5, n6⟩ := hO
  obtain ⟨hv1, hv2, hv3⟩ := hv
  have x1 := n1.symm
  have x2 := n2.symm
  have x3 := n3.symm
  have x4 := n4.symm
  have x5 := n5.symm
  have x6 := n6.symm
  refine g_aload_n hC dX1_size_0 rfl ?_
  refine g_getI hC fdX1_25 (by assumption) dX1_size_1 ?_
  refine g_iret hC hI rfl dX1_size_4 (Nat.le_of_ble_eq_true rfl) (Nat.le_of_ble_eq_true rfl) ⟨rfl, rfl, rfl, _, rfl, ?_⟩
  omega
set_option maxHeartbeats 4000000 in
set_option maxRecDepth 100000 in
theorem kX1_exchangeLookAhead (l : Launch) (D : va_G) (ac : Nat → ClassId) {sh : Nat → Nat × Nat} {rf : Nat → Nat → Option Nat} {mem : Nat → Nat → Int} (a a0 a1 a2 : Nat) (ds : Dfs) (n : Int) (hO : CmO sh rf a a0 a1 a2) (hv : CmV mem a a0 a1 a2 ds) : gMet l D ac mX1_exchangeLookAhead 0 [.ref a, .int (iI n)] 0 0 sh rf mem (pM sh rf (fun r mem1 => r = mem a 4 ∧ mem1 = gup mem a 4 n)) := by
  refine gMet.mk (by decide) (by intro v hv; simp at hv; (try rcases hv with rfl | rfl) <;> rfl) (Nat.le_of_ble_eq_true rfl) (fun X hC hI => ?_)
  show gG X sh rf mem 0 0 0 [some (.ref a), some (.int (iI n)), none] []
  have hO9 := hO
  have hv9 := hv
  obtain ⟨n1, n2, n3⟩ := hO.ne
  obtain ⟨ho, hr0, hr1, hr2, hs0, hs1, hs2, n4, n5, n6⟩ := hO
  obtain ⟨hv1, hv2, hv3⟩ := hv
  have x1 := n1.symm
  have x2 := n2.symm
  have x3 := n3.symm
  have x4 := n4.symm
  have x5 := n5.symm
  have x6 := n6.symm
  refine g_aload_n hC dX1_exchangeLookAhead_0 rfl ?_
  refine g_getI hC fdX1_21 (by assumption) dX1_exchangeLookAhead_1 ?_
  refine g_istore_n hC 2 rfl dX1_exchangeLookAhead_4 (Nat.le_of_ble_eq_true rfl) ?_
  dsimp only [List.set]
  refine g_aload_n hC dX1_exchangeLookAhead_5 rfl ?_
  refine g_iload_n hC dX1_exchangeLookAhead_6 rfl ?_
  refine g_putI hC fdX1_21 (by assumption) rfl rfl dX1_exchangeLookAhead_7 ?_
  refine g_iload_n hC dX1_exchangeLookAhead_10 rfl ?_
  refine g_iret hC hI rfl dX1_exchangeLookAhead_11 (Nat.le_of_ble_eq_true rfl) (Nat.le_of_ble_eq_true rfl) ⟨rfl, rfl, _, rfl, ?_⟩
  exact ⟨rfl, rfl⟩
def tellD (ds : Dfs) (i w : Int) : Int := if i < 0 ∨ ds.length ≤ i then -1 else if w = 0 then (df ds i.toNat).1 else if w = 1 then (df ds i.toNat).2.1 else if w = 2 then (df ds i.toNat).2.2 else -1
set_option maxHeartbeats 4000000 in
set_option maxRecDepth 100000 in
theorem kX1_tell (l : Launch) (D : va_G) (ac : Nat → ClassId) {sh : Nat → Nat × Nat} {rf : Nat → Nat → Option Nat} {mem : Nat → Nat → Int} (a a0 a1 a2 : Nat) (ds : Dfs) (i w : Int) (hO : CmO sh rf a a0 a1 a2) (hv : CmV mem a a0 a1 a2 ds) (hp : inR i) (hq : inR w) : gMet l D ac mX1_tell 0 [.ref a, .int (iI i), .int (iI w)] 0 0 sh rf mem (pP sh rf mem (fun r => r = tellD ds i w)) := by
  refine gMet.mk (by decide) (by intro v hv; simp at hv; (try rcases hv with rfl | rfl | rfl) <;> rfl) (Nat.le_of_ble_eq_true rfl) (fun X hC hI => ?_)
  show gG X sh rf mem 0 0 0 [some (.ref a), some (.int (iI i)), some (.int (iI w))] []
  have hO9 := hO
  have hv9 := hv
  obtain ⟨n1, n2, n3⟩ := hO.ne
  obtain ⟨ho, hr0, hr1, hr2, hs0, hs1, hs2, n4, n5, n6⟩ := hO
  obtain ⟨hv1, hv2, hv3⟩ := hv
  have x1 := n1.symm
  have x2 := n2.symm
  have x3 := n3.symm
  have x4 := n4.symm
  have x5 := n5.symm
  have x6 := n6.symm
  obtain ⟨hp1, hp2⟩ := hp
  obtain ⟨hq1, hq2⟩ := hq
  refine g_iload_n hC dX1_tell_0 rfl ?_
  refine g_if_lt (tgt := 12) hC dX1_tell_1 (by decide) ⟨by omega, by omega⟩ (fun h1 => ?_) (fun h1 => ?_)
  · refine g_iconst hC dX1_tell_12 ?_
    refine g_iret hC hI rfl dX1_tell_13 (Nat.le_of_ble_eq_true rfl) (Nat.le_of_ble_eq_true rfl) ⟨rfl, rfl, rfl, _, rfl, ?_⟩
    rw [tellD, if_pos (by omega)]
  · refine g_iload_n hC dX1_tell_4 rfl ?_
    refine g_aload_n hC dX1_tell_5 rfl ?_
    refine g_getI hC fdX1_25 (by assumption) dX1_tell_6 ?_
    refine g_icmp_lt (tgt := 14) hC dX1_tell_9 (by decide) ⟨by omega, by omega⟩ ⟨by omega, by omega⟩ (fun h9 => ?_) (fun h9 => ?_)
    · have q := hv3 i.toNat (by omega)
      refine g_iload_n hC dX1_tell_14 rfl ?_
      rcases (show w = 0 ∨ w = 1 ∨ w = 2 ∨ (w < 0 ∨ 2 < w) by omega) with s15 | s15 | s15 | s15
      · refine g_tableIn (tgt := 40) hC dX1_tell_15 (0) s15 ⟨by decide, by decide⟩ (by decide) (by decide) rfl (by decide) ?_
        refine g_aload_n hC dX1_tell_40 rfl ?_
        refine g_getR hC fdX1_9 (by assumption) (by assumption) dX1_tell_41 ?_
        refine g_iload_n hC dX1_tell_44 rfl ?_
        refine g_iald hC (by assumption) (by omega) (by omega) (by decide) dX1_tell_45 ?_
        refine g_iret hC hI rfl dX1_tell_46 (Nat.le_of_ble_eq_true rfl) (Nat.le_of_ble_eq_true rfl) ⟨rfl, rfl, rfl, _, rfl, ?_⟩
        rw [tellD, if_neg (by omega), if_pos s15]
        exact q.1
      · refine g_tableIn (tgt := 47) hC dX1_tell_15 (1) s15 ⟨by decide, by decide⟩ (by decide) (by decide) rfl (by decide) ?_
        refine g_aload_n hC dX1_tell_47 rfl ?_
        refine g_getR hC fdX1_15 (by assumption) (by assumption) dX1_tell_48 ?_
        refine g_iload_n hC dX1_tell_51 rfl ?_
        refine g_iald hC (by assumption) (by omega) (by omega) (by decide) dX1_tell_52 ?_
        refine g_iret hC hI rfl dX1_tell_53 (Nat.le_of_ble_eq_true rfl) (Nat.le_of_ble_eq_true rfl) ⟨rfl, rfl, rfl, _, rfl, ?_⟩
        rw [tellD, if_neg (by omega), if_neg (by omega), if_pos s15]
        exact q.2.1
      · refine g_tableIn (tgt := 54) hC dX1_tell_15 (2) s15 ⟨by decide, by decide⟩ (by decide) (by decide) rfl (by decide) ?_
        refine g_aload_n hC dX1_tell_54 rfl ?_
        refine g_getR hC fdX1_18 (by assumption) (by assumption) dX1_tell_55 ?_
        refine g_iload_n hC dX1_tell_58 rfl ?_
        refine g_iald hC (by assumption) (by omega) (by omega) (by decide) dX1_tell_59 ?_
        refine g_iret hC hI rfl dX1_tell_60 (Nat.le_of_ble_eq_true rfl) (Nat.le_of_ble_eq_true rfl) ⟨rfl, rfl, rfl, _, rfl, ?_⟩
        rw [tellD, if_neg (by omega), if_neg (by omega), if_neg (by omega), if_pos s15]
        exact q.2.2
      · refine g_tableOut (tgt := 61) hC dX1_tell_15 ⟨by omega, by omega⟩ s15 (by decide) ?_
        refine g_iconst hC dX1_tell_61 ?_
        refine g_iret hC hI rfl dX1_tell_62 (Nat.le_of_ble_eq_true rfl) (Nat.le_of_ble_eq_true rfl) ⟨rfl, rfl, rfl, _, rfl, ?_⟩
        rw [tellD, if_neg (by omega), if_neg (by omega), if_neg (by omega), if_neg (by omega)]
    · refine g_iconst hC dX1_tell_12 ?_
      refine g_iret hC hI rfl dX1_tell_13 (Nat.le_of_ble_eq_true rfl) (Nat.le_of_ble_eq_true rfl) ⟨rfl, rfl, rfl, _, rfl, ?_⟩
      rw [tellD, if_pos (by omega)]
set_option maxHeartbeats 4000000 in
set_option maxRecDepth 100000 in
theorem kX1_keep (l : Launch) (D : va_G) (ac : Nat → ClassId) {sh : Nat → Nat × Nat} {rf : Nat → Nat → Option Nat} {mem : Nat → Nat → Int} (a a0 a1 a2 : Nat) (ds : Dfs) (k f s : Int) (hO : CmO sh rf a a0 a1 a2) (hv : CmV mem a a0 a1 a2 ds) (hl : ds.length < 60) : gMet l D ac mX1_keep 0 [.ref a, .int (iI k), .int (iI f), .int (iI s)] 0 0 sh rf mem (pV sh rf (fun mem1 => CmV mem1 a a0 a1 a2 (ds ++ [(k, f, s)]) ∧ Fr4 mem mem1 a a0 a1 a2 ∧ ∀ j, j ≠ 3 → mem1 a j = mem a j)) := by
  refine gMet.mk (by decide) (by intro v hv; simp at hv; (try rcases hv with rfl | rfl | rfl | rfl) <;> rfl) (Nat.le_of_ble_eq_true rfl) (fun X hC hI => ?_)
  show gG X sh rf mem 0 0 0 [some (.ref a), some (.int (iI k)), some (.int (iI f)), some (.int (iI s))] []
  have hO9 := hO
  have hv9 := hv
  obtain ⟨n1, n2, n3⟩ := hO.ne
  obtain ⟨ho, hr0, hr1, hr2, hs0, hs1, hs2, n4, n5, n6⟩ := hO
  obtain ⟨hv1, hv2, hv3⟩ := hv
  have x1 := n1.symm
  have x2 := n2.symm
  have x3 := n3.symm
  have x4 := n4.symm
  have x5 := n5.symm
  have x6 := n6.symm
  refine g_aload_n hC dX1_keep_0 rfl ?_
  refine g_getI hC fdX1_25 (by assumption) dX1_keep_1 ?_
  refine g_aload_n hC dX1_keep_4 rfl ?_
  refine g_getR hC fdX1_9 (by assumption) (by assumption) dX1_keep_5 ?_
  refine g_len hC (by assumption) (by decide) dX1_keep_8 ?_
  refine g_icmp_ge (tgt := 52) hC dX1_keep_9 (by decide) ⟨by omega, by omega⟩ ⟨by omega, by omega⟩ (fun h9 => ?_) (fun h9 => ?_)
  · exfalso; omega
  · refine g_aload_n hC dX1_keep_12 rfl ?_
    refine g_getR hC fdX1_9 (by assumption) (by assumption) dX1_keep_13 ?_
    refine g_aload_n hC dX1_keep_16 rfl ?_
    refine g_getI hC fdX1_25 (by assumption) dX1_keep_17 ?_
    refine g_iload_n hC dX1_keep_20 rfl ?_
    refine g_iast hC (by assumption) (by omega) (by omega) (by decide) dX1_keep_21 ?_
    refine g_aload_n hC dX1_keep_22 rfl ?_
    refine g_getR hC fdX1_15 (by assumption) (by assumption) dX1_keep_23 ?_
    refine g_aload_n hC dX1_keep_26 rfl ?_
    refine g_getI hC fdX1_25 (by assumption) dX1_keep_27 ?_
    refine g_iload_n hC dX1_keep_30 rfl ?_
    rw [gup_a _ _ _ _ n1]
    refine g_iast hC (by assumption) (by omega) (by omega) (by decide) dX1_keep_31 ?_
    refine g_aload_n hC dX1_keep_32 rfl ?_
    refine g_getR hC fdX1_18 (by assumption) (by assumption) dX1_keep_33 ?_
    refine g_aload_n hC dX1_keep_36 rfl ?_
    refine g_getI hC fdX1_25 (by assumption) dX1_keep_37 ?_
    refine g_iload_n hC dX1_keep_40 rfl ?_
    rw [gup_a _ _ _ _ n2, gup_a _ _ _ _ n1]
    refine g_iast hC (by assumption) (by omega) (by omega) (by decide) dX1_keep_41 ?_
    refine g_aload_n hC dX1_keep_42 rfl ?_
    refine g_dup hC dX1_keep_43 rfl ?_
    refine g_getI hC fdX1_25 (by assumption) dX1_keep_44 ?_
    refine g_iconst hC dX1_keep_47 ?_
    refine g_iadd hC dX1_keep_48 ?_
    refine g_putI hC fdX1_25 (by assumption) rfl rfl dX1_keep_49 ?_
    refine g_vret hC hI rfl dX1_keep_52 (Nat.le_of_ble_eq_true rfl) (Nat.le_of_ble_eq_true rfl) ⟨rfl, rfl, rfl, ?_⟩
    refine CmV_app hO9 hv9 hl ?_
    rw [gup_a _ _ _ _ n3, gup_a _ _ _ _ n2, gup_a _ _ _ _ n1, hv1, Int.toNat_natCast]
set_option maxHeartbeats 4000000 in
set_option maxRecDepth 100000 in
theorem kX1_keepLeft (l : Launch) (D : va_G) (ac : Nat → ClassId) {sh : Nat → Nat × Nat} {rf : Nat → Nat → Option Nat} {mem : Nat → Nat → Int} (a a0 a1 a2 : Nat) (ds : Dfs) (b b0 b1 b2 : Nat) (xs : Lns) (f n : Nat) (k : Int) (hO : CmO sh rf a a0 a1 a2) (hv : CmV mem a a0 a1 a2 ds) (hOb : LnO sh rf b b0 b1 b2) (hib0 : LnI mem b b0 b1 b2) (hvb : LnV mem b b0 b1 b2 xs) (hk : k = 1 ∨ k = 2) (hf : f + n ≤ xs.length) (hl : ds.length + n ≤ 60) : gMet l D ac mX1_keepLeft 2 [.ref a, .ref b, .int (iI f), .int (iI (f + n)), .int (iI k)] 0 0 sh rf mem (pV sh rf (fun mem1 => CmV mem1 a a0 a1 a2 (ds ++ kl k xs f n) ∧ Fr4 mem mem1 a a0 a1 a2 ∧ ∀ j, j ≠ 3 → mem1 a j = mem a j)) := by
  refine gMet.mk (by decide) (by intro v hv; simp at hv; (try rcases hv with rfl | rfl | rfl | rfl | rfl) <;> rfl) (Nat.le_of_ble_eq_true rfl) (fun X hC hI => ?_)
  show gG X sh rf mem 0 0 0 [some (.ref a), some (.ref b), some (.int (iI f)), some (.int (iI (f + n))), some (.int (iI k)), none, none] []
  have hO9 := hO
  have hv9 := hv
  obtain ⟨n1, n2, n3⟩ := hO.ne
  obtain ⟨ho, hr0, hr1, hr2, hs0, hs1, hs2, n4, n5, n6⟩ := hO
  obtain ⟨hv1, hv2, hv3⟩ := hv
  have x1 := n1.symm
  have x2 := n2.symm
  have x3 := n3.symm
  have x4 := n4.symm
  have x5 := n5.symm
  have x6 := n6.symm
  have hO8 := hOb
  have hi8 := hib0
  have hv8 := hvb
  have bo := hOb.1
  have hblen := hv8.1
  have hb30 := hi8.2.1
  have J3 : ∀ (t i : Nat) (m1 : Nat → Nat → Int), i ≤ n → n < i + t → CmV m1 a a0 a1 a2 (ds ++ kl k xs f i) → Fr4 mem m1 a a0 a1 a2 → (∀ j, j ≠ 3 → m1 a j = mem a j) → ∀ o, gG X sh rf m1 0 0 3 [some (.ref a), some (.ref b), some (.int (iI f)), some (.int (iI (f + n))), some (.int (iI k)), some (.int (iI (f + i))), o] [] := by
    intro t
    induction t with
    | zero => intro i m1 i1 i2; omega
    | succ t ih =>
      intro i m1 i1 i2 i3 i4 i5 o
      have hfr := CmLn hO9 hO8 i4
      have hib := LnI.fr hfr hi8
      have hvb := LnV.fr hfr hv8
      have hls := LnV.len hi8 hv8 (f + i)
      have hll : (ds ++ kl k xs f i).length = ds.length + i := by rw [List.length_append, kl_len]
      refine g_iload hC dX1_keepLeft_3 rfl ?_
      refine g_iload_n hC dX1_keepLeft_5 rfl ?_
      refine g_icmp_ge (tgt := 53) hC dX1_keepLeft_6 (by decide) ⟨by omega, by omega⟩ ⟨by omega, by omega⟩ (fun h6 => ?_) (fun h6 => ?_)
      · refine g_vret hC hI rfl dX1_keepLeft_53 (Nat.le_of_ble_eq_true rfl) (Nat.le_of_ble_eq_true rfl) ⟨rfl, rfl, rfl, ?_⟩
        have q : i = n := by omega
        subst q
        exact ⟨i3, i4, i5⟩
      · refine g_aload_n hC dX1_keepLeft_9 rfl ?_
        refine g_iload hC dX1_keepLeft_10 rfl ?_
        refine g_VP hC (kX4_numberAt (gl X) (gD X) (gac X) b b0 b1 b2 xs (f + i) hO8 hib hvb ⟨by omega, by omega⟩) cvX4_numberAt lkX1_52 (by assumption) rfl rfl (Nat.le_of_ble_eq_true rfl) (hI.fit (Nat.le_of_ble_eq_true rfl) (Nat.le_of_ble_eq_true rfl) (Nat.le_of_ble_eq_true rfl)) dX1_keepLeft_12 (fun x12 hx12 => ?_)
        have e12 : x12 = nu xs (f + i) := by
          rw [show ((f : Int) + (i : Int)).toNat = f + i by omega] at hx12
          omega
        subst e12
        refine g_istore hC dX1_keepLeft_15 (Nat.le_of_ble_eq_true rfl) ?_
        dsimp only [List.set]
        refine g_aload_n hC dX1_keepLeft_17 rfl ?_
        refine g_iload hC dX1_keepLeft_18 rfl ?_
        refine g_iload hC dX1_keepLeft_20 rfl ?_
        refine g_iconst hC dX1_keepLeft_22 ?_
        refine g_icmp_ne (tgt := 31) hC dX1_keepLeft_23 (by decide) ⟨by omega, by omega⟩ ⟨by omega, by omega⟩ (fun h23 => ?_) (fun h23 => ?_)
        · refine g_iconst hC dX1_keepLeft_31 ?_
          refine g_iload hC dX1_keepLeft_32 rfl ?_
          refine g_iconst hC dX1_keepLeft_34 ?_
          refine g_icmp_ne (tgt := 43) hC dX1_keepLeft_35 (by decide) ⟨by omega, by omega⟩ ⟨by omega, by omega⟩ (fun h35 => ?_) (fun h35 => ?_)
          · refine g_iconst hC dX1_keepLeft_43 ?_
            refine g_VV hC (kX1_keep (gl X) (gD X) (gac X) a a0 a1 a2 _ _ _ _ hO9 i3 (by omega)) cvX1_keep lkX1_56 (by assumption) rfl rfl (Nat.le_of_ble_eq_true rfl) (hI.fit (Nat.le_of_ble_eq_true rfl) (Nat.le_of_ble_eq_true rfl) (Nat.le_of_ble_eq_true rfl)) dX1_keepLeft_44 (fun mem44 hx44 => ?_)
            refine g_iinc hC dX1_keepLeft_47 rfl ?_
            dsimp only [List.set]
            refine g_goto (tgt := 3) hC dX1_keepLeft_50 (by decide) ?_
            first
            | exact J3 (n + 1) 0 mem (Nat.zero_le _) (by omega) (by simp only [kl, List.append_nil]; exact hv9) Fr4.rf (fun _ _ => rfl) _
            | (exfalso; omega)
            | (have z := ih (i + 1) mem44 (by omega) (by omega) (by
                 rw [kl, ← List.append_assoc]
                 have h44 := hx44.1
                 have e9 : kx k (nu xs (f + i)) = (k, if k = 1 then nu xs (f + i) else 0, if k = 2 then nu xs (f + i) else 0) := rfl
                 rw [e9]
                 first
                 | (rw [if_pos (by omega), if_neg (by omega)]; exact h44)
                 | (rw [if_neg (by omega), if_pos (by omega)]; exact h44)) (i4.trans hx44.2.1) (fun j hj => (hx44.2.2 j hj).trans (i5 j hj)) (some (.int (iI (nu xs (f + i)))))
               rw [show ((f : Int) + ((i + 1 : Nat) : Int)) = f + i + 1 by omega] at z
               exact z)
          · refine g_iload hC dX1_keepLeft_38 rfl ?_
            refine g_goto (tgt := 44) hC dX1_keepLeft_40 (by decide) ?_
            refine g_VV hC (kX1_keep (gl X) (gD X) (gac X) a a0 a1 a2 _ _ _ _ hO9 i3 (by omega)) cvX1_keep lkX1_56 (by assumption) rfl rfl (Nat.le_of_ble_eq_true rfl) (hI.fit (Nat.le_of_ble_eq_true rfl) (Nat.le_of_ble_eq_true rfl) (Nat.le_of_ble_eq_true rfl)) dX1_keepLeft_44 (fun mem44 hx44 => ?_)
            refine g_iinc hC dX1_keepLeft_47 rfl ?_
            dsimp only [List.set]
            refine g_goto (tgt := 3) hC dX1_keepLeft_50 (by decide) ?_
            first
            | exact J3 (n + 1) 0 mem (Nat.zero_le _) (by omega) (by simp only [kl, List.append_nil]; exact hv9) Fr4.rf (fun _ _ => rfl) _
            | (exfalso; omega)
            | (have z := ih (i + 1) mem44 (by omega) (by omega) (by
                 rw [kl, ← List.append_assoc]
                 have h44 := hx44.1
                 have e9 : kx k (nu xs (f + i)) = (k, if k = 1 then nu xs (f + i) else 0, if k = 2 then nu xs (f + i) else 0) := rfl
                 rw [e9]
                 first
                 | (rw [if_pos (by omega), if_neg (by omega)]; exact h44)
                 | (rw [if_neg (by omega), if_pos (by omega)]; exact h44)) (i4.trans hx44.2.1) (fun j hj => (hx44.2.2 j hj).trans (i5 j hj)) (some (.int (iI (nu xs (f + i)))))
               rw [show ((f : Int) + ((i + 1 : Nat) : Int)) = f + i + 1 by omega] at z
               exact z)
        · refine g_iload hC dX1_keepLeft_26 rfl ?_
          refine g_goto (tgt := 32) hC dX1_keepLeft_28 (by decide) ?_
          refine g_iload hC dX1_keepLeft_32 rfl ?_
          refine g_iconst hC dX1_keepLeft_34 ?_
          refine g_icmp_ne (tgt := 43) hC dX1_keepLeft_35 (by decide) ⟨by omega, by omega⟩ ⟨by omega, by omega⟩ (fun h35 => ?_) (fun h35 => ?_)
          · refine g_iconst hC dX1_keepLeft_43 ?_
            refine g_VV hC (kX1_keep (gl X) (gD X) (gac X) a a0 a1 a2 _ _ _ _ hO9 i3 (by omega)) cvX1_keep lkX1_56 (by assumption) rfl rfl (Nat.le_of_ble_eq_true rfl) (hI.fit (Nat.le_of_ble_eq_true rfl) (Nat.le_of_ble_eq_true rfl) (Nat.le_of_ble_eq_true rfl)) dX1_keepLeft_44 (fun mem44 hx44 => ?_)
            refine g_iinc hC dX1_keepLeft_47 rfl ?_
            dsimp only [List.set]
            refine g_goto (tgt := 3) hC dX1_keepLeft_50 (by decide) ?_
            first
            | exact J3 (n + 1) 0 mem (Nat.zero_le _) (by omega) (by simp only [kl, List.append_nil]; exact hv9) Fr4.rf (fun _ _ => rfl) _
            | (exfalso; omega)
            | (have z := ih (i + 1) mem44 (by omega) (by omega) (by
                 rw [kl, ← List.append_assoc]
                 have h44 := hx44.1
                 have e9 : kx k (nu xs (f + i)) = (k, if k = 1 then nu xs (f + i) else 0, if k = 2 then nu xs (f + i) else 0) := rfl
                 rw [e9]
                 first
                 | (rw [if_pos (by omega), if_neg (by omega)]; exact h44)
                 | (rw [if_neg (by omega), if_pos (by omega)]; exact h44)) (i4.trans hx44.2.1) (fun j hj => (hx44.2.2 j hj).trans (i5 j hj)) (some (.int (iI (nu xs (f + i)))))
               rw [show ((f : Int) + ((i + 1 : Nat) : Int)) = f + i + 1 by omega] at z
               exact z)
          · refine g_iload hC dX1_keepLeft_38 rfl ?_
            refine g_goto (tgt := 44) hC dX1_keepLeft_40 (by decide) ?_
            refine g_VV hC (kX1_keep (gl X) (gD X) (gac X) a a0 a1 a2 _ _ _ _ hO9 i3 (by omega)) cvX1_keep lkX1_56 (by assumption) rfl rfl (Nat.le_of_ble_eq_true rfl) (hI.fit (Nat.le_of_ble_eq_true rfl) (Nat.le_of_ble_eq_true rfl) (Nat.le_of_ble_eq_true rfl)) dX1_keepLeft_44 (fun mem44 hx44 => ?_)
            refine g_iinc hC dX1_keepLeft_47 rfl ?_
            dsimp only [List.set]
            refine g_goto (tgt := 3) hC dX1_keepLeft_50 (by decide) ?_
            first
            | exact J3 (n + 1) 0 mem (Nat.zero_le _) (by omega) (by simp only [kl, List.append_nil]; exact hv9) Fr4.rf (fun _ _ => rfl) _
            | (exfalso; omega)
            | (have z := ih (i + 1) mem44 (by omega) (by omega) (by
                 rw [kl, ← List.append_assoc]
                 have h44 := hx44.1
                 have e9 : kx k (nu xs (f + i)) = (k, if k = 1 then nu xs (f + i) else 0, if k = 2 then nu xs (f + i) else 0) := rfl
                 rw [e9]
                 first
                 | (rw [if_pos (by omega), if_neg (by omega)]; exact h44)
                 | (rw [if_neg (by omega), if_pos (by omega)]; exact h44)) (i4.trans hx44.2.1) (fun j hj => (hx44.2.2 j hj).trans (i5 j hj)) (some (.int (iI (nu xs (f + i)))))
               rw [show ((f : Int) + ((i + 1 : Nat) : Int)) = f + i + 1 by omega] at z
               exact z)
  refine g_iload_n hC dX1_keepLeft_0 rfl ?_
  refine g_istore hC dX1_keepLeft_1 (Nat.le_of_ble_eq_true rfl) ?_
  dsimp only [List.set]
  first
  | exact J3 (n + 1) 0 mem (Nat.zero_le _) (by omega) (by simp only [kl, List.append_nil]; exact hv9) Fr4.rf (fun _ _ => rfl) _
  | (exfalso; omega)
  | (have z := ih (i + 1) mem44 (by omega) (by omega) (by
       rw [kl, ← List.append_assoc]
       have h44 := hx44.1
       have e9 : kx k (nu xs (f + i)) = (k, if k = 1 then nu xs (f + i) else 0, if k = 2 then nu xs (f + i) else 0) := rfl
       rw [e9]
       first
       | (rw [if_pos (by omega), if_neg (by omega)]; exact h44)
       | (rw [if_neg (by omega), if_pos (by omega)]; exact h44)) (i4.trans hx44.2.1) (fun j hj => (hx44.2.2 j hj).trans (i5 j hj)) (some (.int (iI (nu xs (f + i)))))
     rw [show ((f : Int) + ((i + 1 : Nat) : Int)) = f + i + 1 by omega] at z
     exact z)
set_option maxHeartbeats 4000000 in
set_option maxRecDepth 100000 in
theorem kX1_meetsAhead (l : Launch) (D : va_G) (ac : Nat → ClassId) {sh : Nat → Nat × Nat} {rf : Nat → Nat → Option Nat} {mem : Nat → Nat → Int} (a a0 a1 a2 : Nat) (ds : Dfs) (b b0 b1 b2 : Nat) (c c0 c1 c2 : Nat) (xs ys : Lns) (i j look : Nat) (hO : CmO sh rf a a0 a1 a2) (hv : CmV mem a a0 a1 a2 ds) (hOb : LnO sh rf b b0 b1 b2) (hib0 : LnI mem b b0 b1 b2) (hvb : LnV mem b b0 b1 b2 xs) (hOc : LnO sh rf c c0 c1 c2) (hic0 : LnI mem c c0 c1 c2) (hvc : LnV mem c c0 c1 c2 ys) (hlk : mem a 4 = look ∧ look ≤ 9) (hij : i ≤ 30 ∧ j ≤ 30) : gMet l D ac mX1_meetsAhead 2 [.ref a, .ref b, .int (iI i), .ref c, .int (iI j)] 0 0 sh rf mem (pM sh rf (fun r mem1 => (r = 1 ∧ ∃ p, Mn look xs ys i j p ∧ mem1 = gup (gup mem a 5 p.2) a 6 (p.1 - p.2 : Nat)) ∨ (r = 0 ∧ (∀ q : Nat × Nat, 1 ≤ q.1 → q.1 ≤ look → q.2 ≤ q.1 → ¬ okP xs ys (i + q.2) (j + q.1 - q.2)) ∧ mem1 = mem))) := by
  refine gMet.mk (by decide) (by intro v hv; simp at hv; (try rcases hv with rfl | rfl | rfl | rfl | rfl) <;> rfl) (Nat.le_of_ble_eq_true rfl) (fun X hC hI => ?_)
  show gG X sh rf mem 0 0 0 [some (.ref a), some (.ref b), some (.int (iI i)), some (.ref c), some (.int (iI j)), none, none] []
  have hO9 := hO
  have hv9 := hv
  obtain ⟨n1, n2, n3⟩ := hO.ne
  obtain ⟨ho, hr0, hr1, hr2, hs0, hs1, hs2, n4, n5, n6⟩ := hO
  obtain ⟨hv1, hv2, hv3⟩ := hv
  have x1 := n1.symm
  have x2 := n2.symm
  have x3 := n3.symm
  have x4 := n4.symm
  have x5 := n5.symm
  have x6 := n6.symm
  have hO8 := hOb
  have hi8 := hib0
  have hv8 := hvb
  have bo := hOb.1
  have hblen := hv8.1
  have hb30 := hi8.2.1
  have hO7 := hOc
  have hi7 := hic0
  have hv7 := hvc
  have co := hOc.1
  have hclen := hv7.1
  have hc30 := hi7.2.1
  have J15 : ∀ (all : Nat), 1 ≤ all → all ≤ look → (∀ q : Nat × Nat, 1 ≤ q.1 → q.2 ≤ q.1 → q.1 < all → ¬ okP xs ys (i + q.2) (j + q.1 - q.2)) → ((∀ q : Nat × Nat, 1 ≤ q.1 → q.2 ≤ q.1 → q.1 < all + 1 → ¬ okP xs ys (i + q.2) (j + q.1 - q.2)) → gG X sh rf mem 0 0 65 [some (.ref a), some (.ref b), some (.int (iI i)), some (.ref c), some (.int (iI j)), some (.int (iI all)), some (.int (iI (all + 1)))] []) → ∀ (t l : Nat), l ≤ all + 1 → all + 1 < l + t → (∀ e, e < l → ¬ okP xs ys (i + e) (j + all - e)) → gG X sh rf mem 0 0 15 [some (.ref a), some (.ref b), some (.int (iI i)), some (.ref c), some (.int (iI j)), some (.int (iI all)), some (.int (iI l))] [] := by
    intro all a1' a2' a3 K t
    induction t with
    | zero => intro l l1 l2; omega
    | succ t ih =>
      intro l l1 l2 l3
      refine g_iload hC dX1_meetsAhead_15 rfl ?_
      refine g_iload hC dX1_meetsAhead_17 rfl ?_
      refine g_icmp_gt (tgt := 65) hC dX1_meetsAhead_19 (by decide) ⟨by omega, by omega⟩ ⟨by omega, by omega⟩ (fun h19 => ?_) (fun h19 => ?_)
      · obtain rfl : l = all + 1 := by omega
        refine K (fun q => ?_)
        intro q1 q2 q3
        by_cases z : q.1 = all
        · rw [z]; exact l3 q.2 (by omega)
        · exact a3 q q1 q2 (by omega)
      · refine g_aload_n hC dX1_meetsAhead_22 rfl ?_
        refine g_iload_n hC dX1_meetsAhead_23 rfl ?_
        refine g_iload hC dX1_meetsAhead_24 rfl ?_
        refine g_iadd hC dX1_meetsAhead_26 ?_
        refine g_aload_n hC dX1_meetsAhead_27 rfl ?_
        refine g_iload hC dX1_meetsAhead_28 rfl ?_
        refine g_iload hC dX1_meetsAhead_30 rfl ?_
        refine g_iadd hC dX1_meetsAhead_32 ?_
        refine g_iload hC dX1_meetsAhead_33 rfl ?_
        refine g_isub hC dX1_meetsAhead_35 ?_
        refine g_VP hC (kX4_isAlike (gl X) (gD X) (gac X) b b0 b1 b2 c c0 c1 c2 xs ys _ _ hO8 hi8 hv8 hO7 hi7 hv7 ⟨by omega, by omega⟩ ⟨by omega, by omega⟩) cvX4_isAlike lkX1_34 (by assumption) rfl rfl (Nat.le_of_ble_eq_true rfl) (hI.fit (Nat.le_of_ble_eq_true rfl) (Nat.le_of_ble_eq_true rfl) (Nat.le_of_ble_eq_true rfl)) dX1_meetsAhead_36 (fun x36 hx36 => ?_)
        have e1 : ((i : Int) + l).toNat = i + l := by omega
        have e2 : ((j : Int) + all - l).toNat = j + all - l := by omega
        rw [e1, e2] at hx36
        refine g_if_eq (tgt := 59) hC dX1_meetsAhead_39 (by decide) ⟨by omega, by omega⟩ (fun h39 => ?_) (fun h39 => ?_)
        · have hnot : ¬ okP xs ys (i + l) (j + all - l) := fun q => by rcases hx36 with z | z; omega; exact z.2 ⟨by omega, by have := q.1; omega, by omega, by have := q.2.1; omega, q.2.2⟩
          refine g_iinc hC dX1_meetsAhead_59 rfl ?_
          dsimp only [List.set]
          refine g_goto (tgt := 15) hC dX1_meetsAhead_62 (by decide) ?_
          first
          | exact J15 all (by omega) (by omega) k3 (fun h9 => KK h9 (by omega)) (all + 2) 0 (by omega) (by omega) (fun e he => absurd he (Nat.not_lt_zero e))
          | exact ih (l + 1) (by omega) (by omega) (fun e he => by rcases Nat.lt_succ_iff_lt_or_eq.mp he with q | rfl; exact l3 e q; exact hnot)
        · refine g_aload_n hC dX1_meetsAhead_42 rfl ?_
          refine g_iload hC dX1_meetsAhead_43 rfl ?_
          refine g_putI hC fdX1_42 (by assumption) rfl rfl dX1_meetsAhead_45 ?_
          refine g_aload_n hC dX1_meetsAhead_48 rfl ?_
          refine g_iload hC dX1_meetsAhead_49 rfl ?_
          refine g_iload hC dX1_meetsAhead_51 rfl ?_
          refine g_isub hC dX1_meetsAhead_53 ?_
          refine g_putI hC fdX1_49 (by assumption) rfl rfl dX1_meetsAhead_54 ?_
          refine g_iconst hC dX1_meetsAhead_57 ?_
          refine g_zret hC hI rfl (by decide +kernel) dX1_meetsAhead_58 (Nat.le_of_ble_eq_true rfl) (Nat.le_of_ble_eq_true rfl) ⟨rfl, rfl, _, rfl, ?_⟩
          refine Or.inl ⟨rfl, (all, l), ⟨a1', a2', by show l ≤ all; omega, ?_, fun q q1 q2 q3 => ?_⟩, ?_⟩
          · rcases hx36 with z | z
            · exact ⟨by show i + l < _; omega, by show j + all - l < _; omega, z.2.2.2.2.2⟩
            · exfalso; omega
          · rcases q3 with q3 | ⟨q3, q4⟩
            · exact a3 q q1 q2 q3
            · have q3' : q.1 = all := q3
              rw [q3']
              exact l3 q.2 q4
          · show _ = gup (gup mem a 5 (l : Int)) a 6 ((all - l : Nat) : Int)
            rw [show ((all - l : Nat) : Int) = (all : Int) - l by omega]
  have J3 : ∀ (t all : Nat), 1 ≤ all → all ≤ look + 1 → look + 1 < all + t → (∀ q : Nat × Nat, 1 ≤ q.1 → q.2 ≤ q.1 → q.1 < all → ¬ okP xs ys (i + q.2) (j + q.1 - q.2)) → ∀ o, gG X sh rf mem 0 0 3 [some (.ref a), some (.ref b), some (.int (iI i)), some (.ref c), some (.int (iI j)), some (.int (iI all)), o] [] := by
    intro t
    induction t with
    | zero => intro all k1 k2 k4; omega
    | succ t ih3 =>
      intro all k1 k2 k4 k3 o
      have KK : (∀ q : Nat × Nat, 1 ≤ q.1 → q.2 ≤ q.1 → q.1 < all + 1 → ¬ okP xs ys (i + q.2) (j + q.1 - q.2)) → all ≤ look → gG X sh rf mem 0 0 65 [some (.ref a), some (.ref b), some (.int (iI i)), some (.ref c), some (.int (iI j)), some (.int (iI all)), some (.int (iI (all + 1)))] [] := by
        intro h9 h8
        refine g_iinc hC dX1_meetsAhead_65 rfl ?_
        dsimp only [List.set]
        refine g_goto (tgt := 3) hC dX1_meetsAhead_68 (by decide) ?_
        exact ih3 (all + 1) (by omega) (by omega) (by omega) h9 _
      refine g_iload hC dX1_meetsAhead_3 rfl ?_
      refine g_aload_n hC dX1_meetsAhead_5 rfl ?_
      refine g_getI hC fdX1_21 (by assumption) dX1_meetsAhead_6 ?_
      refine g_icmp_gt (tgt := 71) hC dX1_meetsAhead_9 (by decide) ⟨by omega, by omega⟩ ⟨by omega, by omega⟩ (fun h9 => ?_) (fun h9 => ?_)
      · refine g_iconst hC dX1_meetsAhead_71 ?_
        refine g_zret hC hI rfl (by decide +kernel) dX1_meetsAhead_72 (Nat.le_of_ble_eq_true rfl) (Nat.le_of_ble_eq_true rfl) ⟨rfl, rfl, _, rfl, ?_⟩
        exact Or.inr ⟨rfl, fun q q1 q2 q3 => k3 q q1 q3 (by omega), rfl⟩
      · refine g_iconst hC dX1_meetsAhead_12 ?_
        refine g_istore hC dX1_meetsAhead_13 (Nat.le_of_ble_eq_true rfl) ?_
        dsimp only [List.set]
        first
        | exact J15 all (by omega) (by omega) k3 (fun h9 => KK h9 (by omega)) (all + 2) 0 (by omega) (by omega) (fun e he => absurd he (Nat.not_lt_zero e))
        | exact ih (l + 1) (by omega) (by omega) (fun e he => by rcases Nat.lt_succ_iff_lt_or_eq.mp he with q | rfl; exact l3 e q; exact hnot)
  refine g_iconst hC dX1_meetsAhead_0 ?_
  refine g_istore hC dX1_meetsAhead_1 (Nat.le_of_ble_eq_true rfl) ?_
  dsimp only [List.set]
  exact J3 (look + 2) 1 (by omega) (by omega) (by omega) (fun q q1 q2 q3 => by omega) _
set_option maxHeartbeats 4000000 in
set_option maxRecDepth 100000 in
theorem kX1_run (l : Launch) (D : va_G) (ac : Nat → ClassId) {sh : Nat → Nat × Nat} {rf : Nat → Nat → Option Nat} {mem : Nat → Nat → Int} (a a0 a1 a2 : Nat) (ds : Dfs) (b b0 b1 b2 : Nat) (c c0 c1 c2 : Nat) (xs ys : Lns) (look : Nat) (hO : CmO sh rf a a0 a1 a2) (hv : CmV mem a a0 a1 a2 ds) (hOb : LnO sh rf b b0 b1 b2) (hib0 : LnI mem b b0 b1 b2) (hvb : LnV mem b b0 b1 b2 xs) (hOc : LnO sh rf c c0 c1 c2) (hic0 : LnI mem c c0 c1 c2) (hvc : LnV mem c c0 c1 c2 ys) (hlk : mem a 4 = look ∧ look ≤ 9) : gMet l D ac mX1_run 4 [.ref a, .ref b, .ref c] 0 0 sh rf mem (pV sh rf (fun mem1 => ∃ es, cmR look xs ys 100 0 0 [] es ∧ CmV mem1 a a0 a1 a2 es ∧ Fr4 mem mem1 a a0 a1 a2 ∧ mem1 a 4 = look)) := by
  refine gMet.mk (by decide) (by intro v hv; simp at hv; (try rcases hv with rfl | rfl | rfl) <;> rfl) (Nat.le_of_ble_eq_true rfl) (fun X hC hI => ?_)
  show gG X sh rf mem 0 0 0 [some (.ref a), some (.ref b), some (.ref c), none, none, none] []
  have hO9 := hO
  have hv9 := hv
  obtain ⟨n1, n2, n3⟩ := hO.ne
  obtain ⟨ho, hr0, hr1, hr2, hs0, hs1, hs2, n4, n5, n6⟩ := hO
  obtain ⟨hv1, hv2, hv3⟩ := hv
  have x1 := n1.symm
  have x2 := n2.symm
  have x3 := n3.symm
  have x4 := n4.symm
  have x5 := n5.symm
  have x6 := n6.symm
  have hO8 := hOb
  have hi8 := hib0
  have hv8 := hvb
  have bo := hOb.1
  have hblen := hv8.1
  have hb30 := hi8.2.1
  have hO7 := hOc
  have hi7 := hic0
  have hv7 := hvc
  have co := hOc.1
  have hclen := hv7.1
  have hc30 := hi7.2.1
  obtain ⟨hlk1, hlk2⟩ := hlk
  have J144 : ∀ (i j rnd : Nat) (m1 : Nat → Nat → Int) (es : Dfs), i ≤ xs.length → j ≤ ys.length → es.length ≤ i + j → CmV m1 a a0 a1 a2 es → Fr4 mem m1 a a0 a1 a2 → m1 a 4 = look → cmR look xs ys 100 0 0 [] (es ++ kl 1 xs i (xs.length - i) ++ kl 2 ys j (ys.length - j)) → gG X sh rf m1 0 0 144 [some (.ref a), some (.ref b), some (.ref c), some (.int (iI i)), some (.int (iI j)), some (.int (iI rnd))] [] := by
    intro i j rnd m1 es i1 j1 l1 v1 f1 k1 hcm
    have hfb := CmLn hO9 hO8 f1
    have hfc := CmLn hO9 hO7 f1
    have hxl : xs.length ≤ 30 := by omega
    have hyl : ys.length ≤ 30 := by omega
    refine g_aload_n hC dX1_run_144 rfl ?_
    refine g_aload_n hC dX1_run_145 rfl ?_
    refine g_iload_n hC dX1_run_146 rfl ?_
    refine g_aload_n hC dX1_run_147 rfl ?_
    refine g_VP hC (kX4_size (gl X) (gD X) (gac X) b b0 b1 b2 hO8) cvX4_size lkX1_60 (by assumption) rfl rfl (Nat.le_of_ble_eq_true rfl) (hI.fit (Nat.le_of_ble_eq_true rfl) (Nat.le_of_ble_eq_true rfl) (Nat.le_of_ble_eq_true rfl)) dX1_run_148 (fun x148 hx148 => ?_)
    have e148 : x148 = (i : Int) + ((xs.length - i : Nat) : Int) := by rw [hx148, hfb.1]; omega
    subst e148
    refine g_iconst hC dX1_run_151 ?_
    refine g_VV hC (kX1_keepLeft (gl X) (gD X) (gac X) a a0 a1 a2 es b b0 b1 b2 xs i (xs.length - i) 1 hO9 v1 hO8 (LnI.fr hfb hi8) (LnV.fr hfb hv8) (Or.inl rfl) (by omega) (by omega)) cvX1_keepLeft lkX1_45 (by assumption) rfl rfl (Nat.le_of_ble_eq_true rfl) (hI.fit (Nat.le_of_ble_eq_true rfl) (Nat.le_of_ble_eq_true rfl) (Nat.le_of_ble_eq_true rfl)) dX1_run_152 (fun mem152 hx152 => ?_)
    refine g_aload_n hC dX1_run_155 rfl ?_
    refine g_aload_n hC dX1_run_156 rfl ?_
    refine g_iload hC dX1_run_157 rfl ?_
    refine g_aload_n hC dX1_run_159 rfl ?_
    refine g_VP hC (kX4_size (gl X) (gD X) (gac X) c c0 c1 c2 hO7) cvX4_size lkX1_60 (by assumption) rfl rfl (Nat.le_of_ble_eq_true rfl) (hI.fit (Nat.le_of_ble_eq_true rfl) (Nat.le_of_ble_eq_true rfl) (Nat.le_of_ble_eq_true rfl)) dX1_run_160 (fun x160 hx160 => ?_)
    have e160 : x160 = (j : Int) + ((ys.length - j : Nat) : Int) := by rw [hx160, (CmLn hO9 hO7 (f1.trans hx152.2.1)).1]; omega
    subst e160
    refine g_iconst hC dX1_run_163 ?_
    refine g_VV hC (kX1_keepLeft (gl X) (gD X) (gac X) a a0 a1 a2 _ c c0 c1 c2 ys j (ys.length - j) 2 hO9 hx152.1 hO7 (LnI.fr (CmLn hO9 hO7 (f1.trans hx152.2.1)) hi7) (LnV.fr (CmLn hO9 hO7 (f1.trans hx152.2.1)) hv7) (Or.inr rfl) (by omega) (by rw [List.length_append, kl_len]; omega)) cvX1_keepLeft lkX1_45 (by assumption) rfl rfl (Nat.le_of_ble_eq_true rfl) (hI.fit (Nat.le_of_ble_eq_true rfl) (Nat.le_of_ble_eq_true rfl) (Nat.le_of_ble_eq_true rfl)) dX1_run_164 (fun mem164 hx164 => ?_)
    refine g_vret hC hI rfl dX1_run_167 (Nat.le_of_ble_eq_true rfl) (Nat.le_of_ble_eq_true rfl) ⟨rfl, rfl, rfl, ?_⟩
    exact ⟨_, hcm, hx164.1, f1.trans (hx152.2.1.trans hx164.2.1), by rw [hx164.2.2 4 (by decide), hx152.2.2 4 (by decide)]; exact k1⟩
  have J13 : ∀ (f i j rnd : Nat) (m1 : Nat → Nat → Int) (es : Dfs), (xs.length - i) + (ys.length - j) < f → i ≤ xs.length → j ≤ ys.length → rnd ≤ i + j → es.length ≤ i + j → CmV m1 a a0 a1 a2 es → Fr4 mem m1 a a0 a1 a2 → m1 a 4 = look → (∀ us, cmR look xs ys f i j es us → cmR look xs ys 100 0 0 [] us) → gG X sh rf m1 0 0 13 [some (.ref a), some (.ref b), some (.ref c), some (.int (iI i)), some (.int (iI j)), some (.int (iI rnd))] [] := by
    intro f
    induction f with
    | zero => intro i j rnd m1 es h9; omega
    | succ f ih =>
      intro i j rnd m1 es h9 i1 j1 r1 l1 v1 f1 k1 hK
      have hfb := CmLn hO9 hO8 f1
      have hfc := CmLn hO9 hO7 f1
      have hib := LnI.fr hfb hi8
      have hvb1 := LnV.fr hfb hv8
      have hic := LnI.fr hfc hi7
      have hvc1 := LnV.fr hfc hv7
      have hb3 : m1 b 3 = xs.length := hvb1.1
      have hc3 : m1 c 3 = ys.length := hvc1.1
      have hxl : xs.length ≤ 30 := by omega
      have hyl : ys.length ≤ 30 := by omega
      refine g_iload hC dX1_run_13 rfl ?_
      refine g_bipush hC dX1_run_15 (by decide +kernel) ?_
      refine g_icmp_ge (tgt := 144) hC dX1_run_17 (by decide) ⟨by omega, by omega⟩ ⟨by omega, by omega⟩ (fun h17 => ?_) (fun h17 => ?_)
      · exact J144 i j rnd m1 es i1 j1 l1 v1 f1 k1 (hK _ (Or.inl ⟨by omega, rfl⟩))
      · refine g_aload_n hC dX1_run_20 rfl ?_
        refine g_iload_n hC dX1_run_21 rfl ?_
        refine g_VP hC (kX4_has (gl X) (gD X) (gac X) b b0 b1 b2 i hO8 hib ⟨by omega, by omega⟩) cvX4_has lkX1_28 (by assumption) rfl rfl (Nat.le_of_ble_eq_true rfl) (hI.fit (Nat.le_of_ble_eq_true rfl) (Nat.le_of_ble_eq_true rfl) (Nat.le_of_ble_eq_true rfl)) dX1_run_22 (fun x22 hx22 => ?_)
        refine g_if_eq (tgt := 144) hC dX1_run_25 (by decide) ⟨by omega, by omega⟩ (fun h25 => ?_) (fun h25 => ?_)
        · exact J144 i j rnd m1 es i1 j1 l1 v1 f1 k1 (hK _ (Or.inl ⟨by omega, rfl⟩))
        · refine g_aload_n hC dX1_run_28 rfl ?_
          refine g_iload hC dX1_run_29 rfl ?_
          refine g_VP hC (kX4_has (gl X) (gD X) (gac X) c c0 c1 c2 j hO7 hic ⟨by omega, by omega⟩) cvX4_has lkX1_28 (by assumption) rfl rfl (Nat.le_of_ble_eq_true rfl) (hI.fit (Nat.le_of_ble_eq_true rfl) (Nat.le_of_ble_eq_true rfl) (Nat.le_of_ble_eq_true rfl)) dX1_run_31 (fun x31 hx31 => ?_)
          refine g_if_eq (tgt := 144) hC dX1_run_34 (by decide) ⟨by omega, by omega⟩ (fun h34 => ?_) (fun h34 => ?_)
          · exact J144 i j rnd m1 es i1 j1 l1 v1 f1 k1 (hK _ (Or.inl ⟨by omega, rfl⟩))
          · refine g_aload_n hC dX1_run_37 rfl ?_
            refine g_iload_n hC dX1_run_38 rfl ?_
            refine g_aload_n hC dX1_run_39 rfl ?_
            refine g_iload hC dX1_run_40 rfl ?_
            refine g_VP hC (kX4_isAlike (gl X) (gD X) (gac X) b b0 b1 b2 c c0 c1 c2 xs ys i j hO8 hib hvb1 hO7 hic hvc1 ⟨by omega, by omega⟩ ⟨by omega, by omega⟩) cvX4_isAlike lkX1_34 (by assumption) rfl rfl (Nat.le_of_ble_eq_true rfl) (hI.fit (Nat.le_of_ble_eq_true rfl) (Nat.le_of_ble_eq_true rfl) (Nat.le_of_ble_eq_true rfl)) dX1_run_42 (fun x42 hx42 => ?_)
            refine g_if_eq (tgt := 57) hC dX1_run_45 (by decide) ⟨by omega, by omega⟩ (fun h45 => ?_) (fun h45 => ?_)
            · have hns : sg xs i ≠ sg ys j := fun q => by rcases hx42 with z | z; exact absurd z.1 (by omega); rw [Int.toNat_natCast, Int.toNat_natCast] at z; exact z.2 ⟨by omega, by omega, by omega, by omega, q⟩
              refine g_aload_n hC dX1_run_57 rfl ?_
              refine g_aload_n hC dX1_run_58 rfl ?_
              refine g_iload_n hC dX1_run_59 rfl ?_
              refine g_aload_n hC dX1_run_60 rfl ?_
              refine g_iload hC dX1_run_61 rfl ?_
              refine g_VM hC (kX1_meetsAhead (gl X) (gD X) (gac X) a a0 a1 a2 es b b0 b1 b2 c c0 c1 c2 xs ys i j look hO9 v1 hO8 hib hvb1 hO7 hic hvc1 ⟨k1, hlk2⟩ ⟨by omega, by omega⟩) cvX1_meetsAhead lkX1_38 (by assumption) rfl rfl (Nat.le_of_ble_eq_true rfl) (hI.fit (Nat.le_of_ble_eq_true rfl) (Nat.le_of_ble_eq_true rfl) (Nat.le_of_ble_eq_true rfl)) dX1_run_63 (fun x63 mem63 hx63 => ?_)
              rcases hx63 with ⟨rfl, p, hp, rfl⟩ | ⟨rfl, g2, rfl⟩
              · have hp4 := hp.2.2.2.1
                have hp3 := hp.2.2.1
                have hp1 := hp.1
                have hp41 := hp4.1
                have hp42 := hp4.2.1
                have g63 : Fr4 m1 (gup (gup m1 a 5 p.2) a 6 (p.1 - p.2 : Nat)) a a0 a1 a2 := fun b b1 b2 b3 b4 => by funext w; rw [gup_a _ _ _ _ b1, gup_a _ _ _ _ b1]
                have v63 : CmV (gup (gup m1 a 5 p.2) a 6 (p.1 - p.2 : Nat)) a a0 a1 a2 es := ⟨by rw [gup_k _ _ _ _ (by decide), gup_k _ _ _ _ (by decide)]; exact v1.1, v1.2.1, fun w hw => by rw [gup_a _ _ _ _ x1, gup_a _ _ _ _ x1, gup_a _ _ _ _ x2, gup_a _ _ _ _ x2, gup_a _ _ _ _ x3, gup_a _ _ _ _ x3]; exact v1.2.2 w hw⟩
                refine g_if_eq (tgt := 116) hC dX1_run_66 (by decide) ⟨by omega, by omega⟩ (fun h66 => ?_) (fun h66 => ?_)
                · exfalso; omega
                · refine g_aload_n hC dX1_run_69 rfl ?_
                  refine g_aload_n hC dX1_run_70 rfl ?_
                  refine g_iload_n hC dX1_run_71 rfl ?_
                  refine g_iload_n hC dX1_run_72 rfl ?_
                  refine g_aload_n hC dX1_run_73 rfl ?_
                  refine g_getI hC fdX1_42 (by assumption) dX1_run_74 ?_
                  rw [gup_k _ _ _ _ (by decide), gup_s]
                  refine g_iadd hC dX1_run_77 ?_
                  refine g_iconst hC dX1_run_78 ?_
                  refine g_VV hC (kX1_keepLeft (gl X) (gD X) (gac X) a a0 a1 a2 es b b0 b1 b2 xs i p.2 1 hO9 v63 hO8 (LnI.fr (CmLn hO9 hO8 g63) hib) (LnV.fr (CmLn hO9 hO8 g63) hvb1) (Or.inl rfl) (by omega) (by omega)) cvX1_keepLeft lkX1_45 (by assumption) rfl rfl (Nat.le_of_ble_eq_true rfl) (hI.fit (Nat.le_of_ble_eq_true rfl) (Nat.le_of_ble_eq_true rfl) (Nat.le_of_ble_eq_true rfl)) dX1_run_79 (fun mem79 hx79 => ?_)
                  refine g_aload_n hC dX1_run_82 rfl ?_
                  refine g_aload_n hC dX1_run_83 rfl ?_
                  refine g_iload hC dX1_run_84 rfl ?_
                  refine g_iload hC dX1_run_86 rfl ?_
                  refine g_aload_n hC dX1_run_88 rfl ?_
                  refine g_getI hC fdX1_49 (by assumption) dX1_run_89 ?_
                  rw [hx79.2.2 6 (by decide), gup_s]
                  refine g_iadd hC dX1_run_92 ?_
                  refine g_iconst hC dX1_run_93 ?_
                  refine g_VV hC (kX1_keepLeft (gl X) (gD X) (gac X) a a0 a1 a2 _ c c0 c1 c2 ys j (p.1 - p.2) 2 hO9 hx79.1 hO7 (LnI.fr (CmLn hO9 hO7 (g63.trans hx79.2.1)) hic) (LnV.fr (CmLn hO9 hO7 (g63.trans hx79.2.1)) hvc1) (Or.inr rfl) (by omega) (by rw [List.length_append, kl_len]; omega)) cvX1_keepLeft lkX1_45 (by assumption) rfl rfl (Nat.le_of_ble_eq_true rfl) (hI.fit (Nat.le_of_ble_eq_true rfl) (Nat.le_of_ble_eq_true rfl) (Nat.le_of_ble_eq_true rfl)) dX1_run_94 (fun mem94 hx94 => ?_)
                  refine g_iload_n hC dX1_run_97 rfl ?_
                  refine g_aload_n hC dX1_run_98 rfl ?_
                  refine g_getI hC fdX1_42 (by assumption) dX1_run_99 ?_
                  rw [hx94.2.2 5 (by decide), hx79.2.2 5 (by decide), gup_k _ _ _ _ (by decide), gup_s]
                  refine g_iadd hC dX1_run_102 ?_
                  refine g_istore_n hC 3 rfl dX1_run_103 (Nat.le_of_ble_eq_true rfl) ?_
                  dsimp only [List.set]
                  refine g_iload hC dX1_run_104 rfl ?_
                  refine g_aload_n hC dX1_run_106 rfl ?_
                  refine g_getI hC fdX1_49 (by assumption) dX1_run_107 ?_
                  rw [hx94.2.2 6 (by decide), hx79.2.2 6 (by decide), gup_s]
                  refine g_iadd hC dX1_run_110 ?_
                  refine g_istore hC dX1_run_111 (Nat.le_of_ble_eq_true rfl) ?_
                  dsimp only [List.set]
                  refine g_goto (tgt := 138) hC dX1_run_113 (by decide) ?_
                  refine g_iinc hC dX1_run_138 rfl ?_
                  dsimp only [List.set]
                  refine g_goto (tgt := 13) hC dX1_run_141 (by decide) ?_
                  first
                  | (refine J13 100 0 0 0 _ [] (by omega) (Nat.zero_le _) (Nat.zero_le _) (by omega) (Nat.le_refl _) ⟨by rw [gup_s]; rfl, by decide, fun i hi => absurd hi (Nat.not_lt_zero i)⟩ (fun b b1 b2 b3 b4 => by funext w; rw [gup_a _ _ _ _ b1]) (by rw [gup_k _ _ _ _ (by decide)]; exact hlk1) (fun us h => h))
                  | (refine ih (i + 1) (j + 1) (rnd + 1) m1 es (by omega) (by omega) (by omega) (by omega) (by omega) v1 f1 k1 (fun us h => hK us (Or.inr (Or.inl ⟨by omega, by omega, ?_, h⟩)))
                     rcases hx42 with z | z
                     · rw [Int.toNat_natCast, Int.toNat_natCast] at z; exact z.2.2.2.2.2
                     · exfalso; omega)
                  | (have z := ih (i + p.2) (j + (p.1 - p.2)) (rnd + 1) mem94 _ (by omega) (by omega) (by omega) (by omega) (by simp only [List.length_append, kl_len]; omega) hx94.1 ((f1.trans g63).trans (hx79.2.1.trans hx94.2.1)) (by rw [hx94.2.2 4 (by decide), hx79.2.2 4 (by decide), gup_k _ _ _ _ (by decide), gup_k _ _ _ _ (by decide)]; exact k1) (fun us h => hK us (Or.inr (Or.inr (Or.inl ⟨by omega, by omega, hns, p, hp, h⟩))))
                     rw [show ((i + p.2 : Nat) : Int) = (i : Int) + (p.2 : Int) by omega, show ((j + (p.1 - p.2) : Nat) : Int) = (j : Int) + ((p.1 - p.2 : Nat) : Int) by omega] at z
                     exact z)
                  | (refine ih (i + 1) (j + 1) (rnd + 1) mem129 _ (by omega) (by omega) (by omega) (by omega) (by simp only [List.length_append, List.length_cons, List.length_nil]; omega) hx129.1 (f1.trans hx129.2.1) (by rw [hx129.2.2 4 (by decide)]; exact k1) (fun us h => hK us (Or.inr (Or.inr (Or.inr ⟨by omega, by omega, hns, g2, h⟩)))))
              · refine g_if_eq (tgt := 116) hC dX1_run_66 (by decide) ⟨by omega, by omega⟩ (fun h66 => ?_) (fun h66 => ?_)
                · refine g_aload_n hC dX1_run_116 rfl ?_
                  refine g_iconst hC dX1_run_117 ?_
                  refine g_aload_n hC dX1_run_118 rfl ?_
                  refine g_iload_n hC dX1_run_119 rfl ?_
                  refine g_VP hC (kX4_numberAt (gl X) (gD X) (gac X) b b0 b1 b2 xs i hO8 hib hvb1 ⟨by omega, by omega⟩) cvX4_numberAt lkX1_52 (by assumption) rfl rfl (Nat.le_of_ble_eq_true rfl) (hI.fit (Nat.le_of_ble_eq_true rfl) (Nat.le_of_ble_eq_true rfl) (Nat.le_of_ble_eq_true rfl)) dX1_run_120 (fun x120 hx120 => ?_)
                  have e120 : x120 = nu xs i := by
                    rw [Int.toNat_natCast] at hx120
                    omega
                  subst e120
                  refine g_aload_n hC dX1_run_123 rfl ?_
                  refine g_iload hC dX1_run_124 rfl ?_
                  refine g_VP hC (kX4_numberAt (gl X) (gD X) (gac X) c c0 c1 c2 ys j hO7 hic hvc1 ⟨by omega, by omega⟩) cvX4_numberAt lkX1_52 (by assumption) rfl rfl (Nat.le_of_ble_eq_true rfl) (hI.fit (Nat.le_of_ble_eq_true rfl) (Nat.le_of_ble_eq_true rfl) (Nat.le_of_ble_eq_true rfl)) dX1_run_126 (fun x126 hx126 => ?_)
                  have e126 : x126 = nu ys j := by
                    rw [Int.toNat_natCast] at hx126
                    omega
                  subst e126
                  refine g_VV hC (kX1_keep (gl X) (gD X) (gac X) a a0 a1 a2 es _ _ _ hO9 v1 (by omega)) cvX1_keep lkX1_56 (by assumption) rfl rfl (Nat.le_of_ble_eq_true rfl) (hI.fit (Nat.le_of_ble_eq_true rfl) (Nat.le_of_ble_eq_true rfl) (Nat.le_of_ble_eq_true rfl)) dX1_run_129 (fun mem129 hx129 => ?_)
                  refine g_iinc hC dX1_run_132 rfl ?_
                  dsimp only [List.set]
                  refine g_iinc hC dX1_run_135 rfl ?_
                  dsimp only [List.set]
                  refine g_iinc hC dX1_run_138 rfl ?_
                  dsimp only [List.set]
                  refine g_goto (tgt := 13) hC dX1_run_141 (by decide) ?_
                  first
                  | (refine J13 100 0 0 0 _ [] (by omega) (Nat.zero_le _) (Nat.zero_le _) (by omega) (Nat.le_refl _) ⟨by rw [gup_s]; rfl, by decide, fun i hi => absurd hi (Nat.not_lt_zero i)⟩ (fun b b1 b2 b3 b4 => by funext w; rw [gup_a _ _ _ _ b1]) (by rw [gup_k _ _ _ _ (by decide)]; exact hlk1) (fun us h => h))
                  | (refine ih (i + 1) (j + 1) (rnd + 1) m1 es (by omega) (by omega) (by omega) (by omega) (by omega) v1 f1 k1 (fun us h => hK us (Or.inr (Or.inl ⟨by omega, by omega, ?_, h⟩)))
                     rcases hx42 with z | z
                     · rw [Int.toNat_natCast, Int.toNat_natCast] at z; exact z.2.2.2.2.2
                     · exfalso; omega)
                  | (have z := ih (i + p.2) (j + (p.1 - p.2)) (rnd + 1) mem94 _ (by omega) (by omega) (by omega) (by omega) (by simp only [List.length_append, kl_len]; omega) hx94.1 ((f1.trans g63).trans (hx79.2.1.trans hx94.2.1)) (by rw [hx94.2.2 4 (by decide), hx79.2.2 4 (by decide), gup_k _ _ _ _ (by decide), gup_k _ _ _ _ (by decide)]; exact k1) (fun us h => hK us (Or.inr (Or.inr (Or.inl ⟨by omega, by omega, hns, p, hp, h⟩))))
                     rw [show ((i + p.2 : Nat) : Int) = (i : Int) + (p.2 : Int) by omega, show ((j + (p.1 - p.2) : Nat) : Int) = (j : Int) + ((p.1 - p.2 : Nat) : Int) by omega] at z
                     exact z)
                  | (refine ih (i + 1) (j + 1) (rnd + 1) mem129 _ (by omega) (by omega) (by omega) (by omega) (by simp only [List.length_append, List.length_cons, List.length_nil]; omega) hx129.1 (f1.trans hx129.2.1) (by rw [hx129.2.2 4 (by decide)]; exact k1) (fun us h => hK us (Or.inr (Or.inr (Or.inr ⟨by omega, by omega, hns, g2, h⟩)))))
                · exfalso; omega
            · refine g_iinc hC dX1_run_48 rfl ?_
              dsimp only [List.set]
              refine g_iinc hC dX1_run_51 rfl ?_
              dsimp only [List.set]
              refine g_goto (tgt := 138) hC dX1_run_54 (by decide) ?_
              refine g_iinc hC dX1_run_138 rfl ?_
              dsimp only [List.set]
              refine g_goto (tgt := 13) hC dX1_run_141 (by decide) ?_
              first
              | (refine J13 100 0 0 0 _ [] (by omega) (Nat.zero_le _) (Nat.zero_le _) (by omega) (Nat.le_refl _) ⟨by rw [gup_s]; rfl, by decide, fun i hi => absurd hi (Nat.not_lt_zero i)⟩ (fun b b1 b2 b3 b4 => by funext w; rw [gup_a _ _ _ _ b1]) (by rw [gup_k _ _ _ _ (by decide)]; exact hlk1) (fun us h => h))
              | (refine ih (i + 1) (j + 1) (rnd + 1) m1 es (by omega) (by omega) (by omega) (by omega) (by omega) v1 f1 k1 (fun us h => hK us (Or.inr (Or.inl ⟨by omega, by omega, ?_, h⟩)))
                 rcases hx42 with z | z
                 · rw [Int.toNat_natCast, Int.toNat_natCast] at z; exact z.2.2.2.2.2
                 · exfalso; omega)
              | (have z := ih (i + p.2) (j + (p.1 - p.2)) (rnd + 1) mem94 _ (by omega) (by omega) (by omega) (by omega) (by simp only [List.length_append, kl_len]; omega) hx94.1 ((f1.trans g63).trans (hx79.2.1.trans hx94.2.1)) (by rw [hx94.2.2 4 (by decide), hx79.2.2 4 (by decide), gup_k _ _ _ _ (by decide), gup_k _ _ _ _ (by decide)]; exact k1) (fun us h => hK us (Or.inr (Or.inr (Or.inl ⟨by omega, by omega, hns, p, hp, h⟩))))
                 rw [show ((i + p.2 : Nat) : Int) = (i : Int) + (p.2 : Int) by omega, show ((j + (p.1 - p.2) : Nat) : Int) = (j : Int) + ((p.1 - p.2 : Nat) : Int) by omega] at z
                 exact z)
              | (refine ih (i + 1) (j + 1) (rnd + 1) mem129 _ (by omega) (by omega) (by omega) (by omega) (by simp only [List.length_append, List.length_cons, List.length_nil]; omega) hx129.1 (f1.trans hx129.2.1) (by rw [hx129.2.2 4 (by decide)]; exact k1) (fun us h => hK us (Or.inr (Or.inr (Or.inr ⟨by omega, by omega, hns, g2, h⟩)))))
  refine g_aload_n hC dX1_run_0 rfl ?_
  refine g_iconst hC dX1_run_1 ?_
  refine g_putI hC fdX1_25 (by assumption) rfl rfl dX1_run_2 ?_
  refine g_iconst hC dX1_run_5 ?_
  refine g_istore_n hC 3 rfl dX1_run_6 (Nat.le_of_ble_eq_true rfl) ?_
  dsimp only [List.set]
  refine g_iconst hC dX1_run_7 ?_
  refine g_istore hC dX1_run_8 (Nat.le_of_ble_eq_true rfl) ?_
  dsimp only [List.set]
  refine g_iconst hC dX1_run_10 ?_
  refine g_istore hC dX1_run_11 (Nat.le_of_ble_eq_true rfl) ?_
  dsimp only [List.set]
  first
  | (refine J13 100 0 0 0 _ [] (by omega) (Nat.zero_le _) (Nat.zero_le _) (by omega) (Nat.le_refl _) ⟨by rw [gup_s]; rfl, by decide, fun i hi => absurd hi (Nat.not_lt_zero i)⟩ (fun b b1 b2 b3 b4 => by funext w; rw [gup_a _ _ _ _ b1]) (by rw [gup_k _ _ _ _ (by decide)]; exact hlk1) (fun us h => h))
  | (refine ih (i + 1) (j + 1) (rnd + 1) m1 es (by omega) (by omega) (by omega) (by omega) (by omega) v1 f1 k1 (fun us h => hK us (Or.inr (Or.inl ⟨by omega, by omega, ?_, h⟩)))
     rcases hx42 with z | z
     · rw [Int.toNat_natCast, Int.toNat_natCast] at z; exact z.2.2.2.2.2
     · exfalso; omega)
  | (have z := ih (i + p.2) (j + (p.1 - p.2)) (rnd + 1) mem94 _ (by omega) (by omega) (by omega) (by omega) (by simp only [List.length_append, kl_len]; omega) hx94.1 ((f1.trans g63).trans (hx79.2.1.trans hx94.2.1)) (by rw [hx94.2.2 4 (by decide), hx79.2.2 4 (by decide), gup_k _ _ _ _ (by decide), gup_k _ _ _ _ (by decide)]; exact k1) (fun us h => hK us (Or.inr (Or.inr (Or.inl ⟨by omega, by omega, hns, p, hp, h⟩))))
     rw [show ((i + p.2 : Nat) : Int) = (i : Int) + (p.2 : Int) by omega, show ((j + (p.1 - p.2) : Nat) : Int) = (j : Int) + ((p.1 - p.2 : Nat) : Int) by omega] at z
     exact z)
  | (refine ih (i + 1) (j + 1) (rnd + 1) mem129 _ (by omega) (by omega) (by omega) (by omega) (by simp only [List.length_append, List.length_cons, List.length_nil]; omega) hx129.1 (f1.trans hx129.2.1) (by rw [hx129.2.2 4 (by decide)]; exact k1) (fun us h => hK us (Or.inr (Or.inr (Or.inr ⟨by omega, by omega, hns, g2, h⟩)))))
set_option maxHeartbeats 4000000 in
set_option maxRecDepth 100000 in
theorem kX1_init (l : Launch) (D : va_G) (ac : Nat → ClassId) {sh : Nat → Nat × Nat} {rf : Nat → Nat → Option Nat} {mem : Nat → Nat → Int} (a : Nat) (ho : sh a = (2, 0)) (hz : mem a = fun _ => 0) : gMet l D ac mX1_init 1 [.ref a] 3 180 sh rf mem (pU (fun sh1 rf1 mem1 => ∃ a0 a1 a2, (sh a0).1 = 0 ∧ (sh a1).1 = 0 ∧ (sh a2).1 = 0 ∧ CmO sh1 rf1 a a0 a1 a2 ∧ CmV mem1 a a0 a1 a2 [] ∧ mem1 a 4 = 3 ∧ (∀ b, b ≠ a0 → b ≠ a1 → b ≠ a2 → sh1 b = sh b) ∧ (∀ b, b ≠ a → b ≠ a0 → b ≠ a1 → b ≠ a2 → rf1 b = rf b) ∧ (∀ b, b ≠ a → b ≠ a0 → b ≠ a1 → b ≠ a2 → mem1 b = mem b))) := by
  refine gMet.mk (by decide) (by intro v hv; simp at hv; (try rcases hv with rfl) <;> rfl) (Nat.le_of_ble_eq_true rfl) (fun X hC hI => ?_)
  show gG X sh rf mem 0 0 0 [some (.ref a)] []
  refine g_aload_n hC dX1_init_0 rfl ?_
  refine g_objInit hC lkX1_3 oi_in oi_co (by rw [hI.rm]; exact (Nat.le_of_ble_eq_true rfl)) (by rw [hI.rm]; exact (Nat.le_of_ble_eq_true rfl)) dX1_init_1 ?_
  refine g_aload_n hC dX1_init_4 rfl ?_
  refine g_bipush hC dX1_init_5 (by decide +kernel) ?_
  refine g_newaN (atype := .int) 60 hC arr_int rfl (Or.inr (Or.inl ⟨rfl, rfl, rfl⟩)) rfl (by decide) (by rw [hI.rm]; exact (Nat.le_of_ble_eq_true rfl)) (by rw [hI.rm]; exact (Nat.le_of_ble_eq_true rfl)) dX1_init_7 (fun q7 sh7 rf7 mem7 hq7 esh7 erf7 emem7 => ?_)
  have ho7 := sh_keep esh7 hq7 ho (by decide)
  have s7 := sh_new esh7
  have z7 := sh_ne hq7 ho (by decide)
  refine g_putR hC fdX1_9 hI.nm (fun C T N h => by cases h; rfl) (by assumption) rfl rfl dX1_init_9 ?_
  refine g_aload_n hC dX1_init_12 rfl ?_
  refine g_bipush hC dX1_init_13 (by decide +kernel) ?_
  refine g_newaN (atype := .int) 60 hC arr_int rfl (Or.inr (Or.inl ⟨rfl, rfl, rfl⟩)) rfl (by decide) (by rw [hI.rm]; exact (Nat.le_of_ble_eq_true rfl)) (by rw [hI.rm]; exact (Nat.le_of_ble_eq_true rfl)) dX1_init_15 (fun q15 sh15 rf15 mem15 hq15 esh15 erf15 emem15 => ?_)
  have ho15 := sh_keep esh15 hq15 ho7 (by decide)
  have s7b := sh_keep esh15 hq15 s7 (by decide)
  have s15 := sh_new esh15
  have z15 := sh_ne hq15 ho7 (by decide)
  have y15 := sh_ne hq15 s7 (by decide)
  have t15 : (sh q15).1 = 0 := by rw [esh7, va_up_ne _ _ y15.symm] at hq15; exact hq15
  refine g_putR hC fdX1_15 hI.nm (fun C T N h => by cases h; rfl) (by assumption) rfl rfl dX1_init_17 ?_
  refine g_aload_n hC dX1_init_20 rfl ?_
  refine g_bipush hC dX1_init_21 (by decide +kernel) ?_
  refine g_newaN (atype := .int) 60 hC arr_int rfl (Or.inr (Or.inl ⟨rfl, rfl, rfl⟩)) rfl (by decide) (by rw [hI.rm]; exact (Nat.le_of_ble_eq_true rfl)) (by rw [hI.rm]; exact (Nat.le_of_ble_eq_true rfl)) dX1_init_23 (fun q23 sh23 rf23 mem23 hq23 esh23 erf23 emem23 => ?_)
  have ho23 := sh_keep esh23 hq23 ho15 (by decide)
  have s7c := sh_keep esh23 hq23 s7b (by decide)
  have s15c := sh_keep esh23 hq23 s15 (by decide)
  have s23 := sh_new esh23
  have z23 := sh_ne hq23 ho15 (by decide)
  have y23 := sh_ne hq23 s7b (by decide)
  have w23 := sh_ne hq23 s15 (by decide)
  have t23 : (sh q23).1 = 0 := by rw [esh15, va_up_ne _ _ w23.symm, esh7, va_up_ne _ _ y23.symm] at hq23; exact hq23
  refine g_putR hC fdX1_18 hI.nm (fun C T N h => by cases h; rfl) (by assumption) rfl rfl dX1_init_25 ?_
  refine g_aload_n hC dX1_init_28 rfl ?_
  refine g_iconst hC dX1_init_29 ?_
  refine g_putI hC fdX1_21 (by assumption) rfl rfl dX1_init_30 ?_
  refine g_vret hC hI rfl dX1_init_33 (Nat.le_of_ble_eq_true rfl) (Nat.le_of_ble_eq_true rfl) ⟨rfl, ?_⟩
  refine ⟨q7, q15, q23, hq7, t15, t23, ⟨ho23, ?_, ?_, ?_, s7c, s15c, s23, y15, y23, w23⟩, ⟨?_, by decide, fun i hi => absurd hi (Nat.not_lt_zero i)⟩, gup_s _ _ _ _, ?_, ?_, ?_⟩
  · rw [gur_k _ _ _ _ (by decide), erf23, va_up_ne _ _ z23, gur_k _ _ _ _ (by decide), erf15, va_up_ne _ _ z15, gur_s]
  · rw [gur_k _ _ _ _ (by decide), erf23, va_up_ne _ _ z23, gur_s]
  · rw [gur_s]
  · rw [gup_k _ _ _ _ (by decide), emem23, va_up_ne _ _ z23, emem15, va_up_ne _ _ z15, emem7, va_up_ne _ _ z7, hz]; rfl
  · intro b b0 b1 b2
    rw [esh23, va_up_ne _ _ b2, esh15, va_up_ne _ _ b1, esh7, va_up_ne _ _ b0]
  · intro b b9 b0 b1 b2
    funext k
    rw [gur_a _ _ _ _ b9, erf23, va_up_ne _ _ b2, gur_a _ _ _ _ b9, erf15, va_up_ne _ _ b1, gur_a _ _ _ _ b9, erf7, va_up_ne _ _ b0]
  · intro b b9 b0 b1 b2
    funext k
    rw [gup_a _ _ _ _ b9, emem23, va_up_ne _ _ b2, emem15, va_up_ne _ _ b1, emem7, va_up_ne _ _ b0]
