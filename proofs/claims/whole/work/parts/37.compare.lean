/-! Comparison: the differences of two members -/
abbrev Dfs : Type := List (Int × Int × Int)
def CmO (sh : Nat → Nat × Nat) (rf : Nat → Nat → Option Nat) (a a0 a1 a2 : Nat) : Prop := sh a = (2, 0) ∧ rf a 0 = some a0 ∧ rf a 1 = some a1 ∧ rf a 2 = some a2 ∧ sh a0 = (12, 60) ∧ sh a1 = (12, 60) ∧ sh a2 = (12, 60) ∧ a0 ≠ a1 ∧ a0 ≠ a2 ∧ a1 ≠ a2
def df (ds : Dfs) (i : Nat) : Int × Int × Int := ds.getD i (0, 0, 0)
def CmV (mem : Nat → Nat → Int) (a a0 a1 a2 : Nat) (ds : Dfs) : Prop := mem a 3 = ds.length ∧ ds.length ≤ 60 ∧ ∀ i, i < ds.length → mem a0 i = (df ds i).1 ∧ mem a1 i = (df ds i).2.1 ∧ mem a2 i = (df ds i).2.2
theorem CmO.ne {sh : Nat → Nat × Nat} {rf : Nat → Nat → Option Nat} {a a0 a1 a2 : Nat} (h : CmO sh rf a a0 a1 a2) : a ≠ a0 ∧ a ≠ a1 ∧ a ≠ a2 := by
  obtain ⟨ho, -, -, -, hs0, hs1, hs2, -⟩ := h
  refine ⟨?_, ?_, ?_⟩ <;> rintro rfl <;> simp_all
theorem df_app {ds : Dfs} {v : Int × Int × Int} (i : Nat) : df (ds ++ [v]) i = if i = ds.length then v else df ds i := by
  unfold df
  rw [List.getD_eq_getElem?_getD, List.getD_eq_getElem?_getD]
  by_cases h : i < ds.length
  · rw [List.getElem?_append_left h, if_neg (by omega)]
  · rw [List.getElem?_append_right (by omega)]
    by_cases h2 : i = ds.length
    · subst h2
      simp
    · rw [if_neg h2, List.getElem?_eq_none (by simp; omega), List.getElem?_eq_none (by omega)]
theorem CmV_app {sh : Nat → Nat × Nat} {rf : Nat → Nat → Option Nat} {mem mem1 : Nat → Nat → Int} {a a0 a1 a2 : Nat} {ds : Dfs} {k f s : Int} (hO : CmO sh rf a a0 a1 a2) (hv : CmV mem a a0 a1 a2 ds) (h : ds.length < 60) (e : mem1 = gup (gup (gup (gup mem a0 ds.length k) a1 ds.length f) a2 ds.length s) a 3 (ds.length + 1)) : CmV mem1 a a0 a1 a2 (ds ++ [(k, f, s)]) ∧ Fr4 mem mem1 a a0 a1 a2 ∧ ∀ j, j ≠ 3 → mem1 a j = mem a j := by
  obtain ⟨n1, n2, n3⟩ := hO.ne
  obtain ⟨-, -, -, -, -, -, -, n4, n5, n6⟩ := hO
  obtain ⟨v1, v2, v3⟩ := hv
  have x1 := n1.symm; have x2 := n2.symm; have x3 := n3.symm; have x4 := n4.symm; have x5 := n5.symm; have x6 := n6.symm
  subst e
  refine ⟨⟨?_, ?_, ?_⟩, ?_, ?_⟩
  · rw [gup_s]; simp
  · simp; omega
  · intro i hi
    rw [df_app]
    by_cases q : i = ds.length
    · subst q
      rw [if_pos rfl]
      refine ⟨?_, ?_, ?_⟩
      · rw [gup_a _ _ _ _ x1, gup_a _ _ _ _ n5, gup_a _ _ _ _ n4, gup_s]
      · rw [gup_a _ _ _ _ x2, gup_a _ _ _ _ n6, gup_s]
      · rw [gup_a _ _ _ _ x3, gup_s]
    · rw [if_neg q]
      have q2 : i < ds.length := by simp at hi; omega
      obtain ⟨z1, z2, z3⟩ := v3 i q2
      refine ⟨?_, ?_, ?_⟩
      · rw [gup_a _ _ _ _ x1, gup_a _ _ _ _ n5, gup_a _ _ _ _ n4, gup_k _ _ _ _ q]; exact z1
      · rw [gup_a _ _ _ _ x2, gup_a _ _ _ _ n6, gup_k _ _ _ _ q, gup_a _ _ _ _ x4]; exact z2
      · rw [gup_a _ _ _ _ x3, gup_k _ _ _ _ q, gup_a _ _ _ _ x6, gup_a _ _ _ _ x5]; exact z3
  · intro b b1 b2 b3 b4
    funext j
    rw [gup_a _ _ _ _ b1, gup_a _ _ _ _ b4, gup_a _ _ _ _ b3, gup_a _ _ _ _ b2]
  · intro j hj
    rw [gup_k _ _ _ _ hj, gup_a _ _ _ _ n3, gup_a _ _ _ _ n2, gup_a _ _ _ _ n1]
theorem CmLn {sh : Nat → Nat × Nat} {rf : Nat → Nat → Option Nat} {mem mem1 : Nat → Nat → Int} {a a0 a1 a2 b b0 b1 b2 : Nat} (hO : CmO sh rf a a0 a1 a2) (hOb : LnO sh rf b b0 b1 b2) (hf : Fr4 mem mem1 a a0 a1 a2) : mem1 b = mem b ∧ mem1 b0 = mem b0 ∧ mem1 b1 = mem b1 ∧ mem1 b2 = mem b2 := by
  obtain ⟨ho, -, -, -, hs0, hs1, hs2, -⟩ := hO
  obtain ⟨bo, -, -, -, bs0, bs1, bs2, -⟩ := hOb
  refine ⟨hf b ?_ ?_ ?_ ?_, hf b0 ?_ ?_ ?_ ?_, hf b1 ?_ ?_ ?_ ?_, hf b2 ?_ ?_ ?_ ?_⟩ <;> rintro rfl <;> simp_all
/-- the difference of one side alone; those of some lines -/
def kx (k v : Int) : Int × Int × Int := (k, if k = 1 then v else 0, if k = 2 then v else 0)
def kl (k : Int) (xs : Lns) (f : Nat) : Nat → Dfs
  | 0 => []
  | n + 1 => kl k xs f n ++ [kx k (nu xs (f + n))]
theorem kl_len (k : Int) (xs : Lns) (f : Nat) : ∀ n, (kl k xs f n).length = n
  | 0 => rfl
  | n + 1 => by simp [kl, kl_len k xs f n]
def okP (xs ys : Lns) (x y : Nat) : Prop := x < xs.length ∧ y < ys.length ∧ sg xs x = sg ys y
def Mn (look : Nat) (xs ys : Lns) (i j : Nat) (p : Nat × Nat) : Prop := 1 ≤ p.1 ∧ p.1 ≤ look ∧ p.2 ≤ p.1 ∧ okP xs ys (i + p.2) (j + p.1 - p.2) ∧ ∀ q : Nat × Nat, 1 ≤ q.1 → q.2 ≤ q.1 → (q.1 < p.1 ∨ q.1 = p.1 ∧ q.2 < p.2) → ¬ okP xs ys (i + q.2) (j + q.1 - q.2)
theorem Mn_one {look : Nat} {xs ys : Lns} {i j : Nat} {p q : Nat × Nat} (hp : Mn look xs ys i j p) (hq : Mn look xs ys i j q) : p = q := by
  obtain ⟨p1, p2, p3, p4, p5⟩ := hp
  obtain ⟨q1, q2, q3, q4, q5⟩ := hq
  rcases Nat.lt_trichotomy p.1 q.1 with h | h | h
  · exact absurd p4 (q5 p p1 p3 (Or.inl h))
  · rcases Nat.lt_trichotomy p.2 q.2 with h2 | h2 | h2
    · exact absurd p4 (q5 p p1 p3 (Or.inr ⟨h, h2⟩))
    · exact Prod.ext h h2
    · exact absurd q4 (p5 q q1 q3 (Or.inr ⟨h.symm, h2⟩))
  · exact absurd q4 (p5 q q1 q3 (Or.inl h))
/-- the comparison, from lines i and j on, with f rounds left -/
def cmR (look : Nat) (xs ys : Lns) : Nat → Nat → Nat → Dfs → Dfs → Prop
  | 0, _, _, _, _ => False
  | f + 1, i, j, ds, es =>
    (¬ (i < xs.length ∧ j < ys.length) ∧ es = ds ++ kl 1 xs i (xs.length - i) ++ kl 2 ys j (ys.length - j)) ∨
    (i < xs.length ∧ j < ys.length ∧ sg xs i = sg ys j ∧ cmR look xs ys f (i + 1) (j + 1) ds es) ∨
    (i < xs.length ∧ j < ys.length ∧ sg xs i ≠ sg ys j ∧ ∃ p, Mn look xs ys i j p ∧ cmR look xs ys f (i + p.2) (j + (p.1 - p.2)) (ds ++ kl 1 xs i p.2 ++ kl 2 ys j (p.1 - p.2)) es) ∨
    (i < xs.length ∧ j < ys.length ∧ sg xs i ≠ sg ys j ∧ (∀ q : Nat × Nat, 1 ≤ q.1 → q.1 ≤ look → q.2 ≤ q.1 → ¬ okP xs ys (i + q.2) (j + q.1 - q.2)) ∧ cmR look xs ys f (i + 1) (j + 1) (ds ++ [(3, nu xs i, nu ys j)]) es)
/-- two comparisons of the same lines come to the same -/
theorem cmR_one {look : Nat} {xs ys : Lns} : ∀ (f g i j : Nat) (ds es fs : Dfs), cmR look xs ys f i j ds es → cmR look xs ys g i j ds fs → es = fs
  | 0, _, _, _, _, _, _, h, _ => h.elim
  | _ + 1, 0, _, _, _, _, _, _, h => h.elim
  | f + 1, g + 1, i, j, ds, es, fs, h, k => by
    rcases h with ⟨h1, h2⟩ | ⟨h1, h2, h3, h4⟩ | ⟨h1, h2, h3, p, h4, h5⟩ | ⟨h1, h2, h3, h4, h5⟩ <;> rcases k with ⟨k1, k2⟩ | ⟨k1, k2, k3, k4⟩ | ⟨k1, k2, k3, q, k4, k5⟩ | ⟨k1, k2, k3, k4, k5⟩
    · rw [h2, k2]
    · exact absurd ⟨k1, k2⟩ h1
    · exact absurd ⟨k1, k2⟩ h1
    · exact absurd ⟨k1, k2⟩ h1
    · exact absurd ⟨h1, h2⟩ k1
    · exact cmR_one f g _ _ _ _ _ h4 k4
    · exact absurd h3 k3
    · exact absurd h3 k3
    · exact absurd ⟨h1, h2⟩ k1
    · exact absurd k3 h3
    · have e := Mn_one h4 k4
      subst e
      exact cmR_one f g _ _ _ _ _ h5 k5
    · exact absurd h4.2.2.2.1 (k4 p h4.1 h4.2.1 h4.2.2.1)
    · exact absurd ⟨h1, h2⟩ k1
    · exact absurd k3 h3
    · exact absurd k4.2.2.2.1 (h4 q k4.1 k4.2.1 k4.2.2.1)
    · exact cmR_one f g _ _ _ _ _ h5 k5
theorem cmR_more {look : Nat} {xs ys : Lns} : ∀ (f i j : Nat) (ds es : Dfs), cmR look xs ys f i j ds es → cmR look xs ys (f + 1) i j ds es
  | 0, _, _, _, _, h => h.elim
  | f + 1, i, j, ds, es, h => by
    rcases h with h | ⟨h1, h2, h3, h4⟩ | ⟨h1, h2, h3, p, h4, h5⟩ | ⟨h1, h2, h3, h4, h5⟩
    · exact Or.inl h
    · exact Or.inr (Or.inl ⟨h1, h2, h3, cmR_more f _ _ _ _ h4⟩)
    · exact Or.inr (Or.inr (Or.inl ⟨h1, h2, h3, p, h4, cmR_more f _ _ _ _ h5⟩))
    · exact Or.inr (Or.inr (Or.inr ⟨h1, h2, h3, h4, cmR_more f _ _ _ _ h5⟩))
set_option maxHeartbeats 4000000 in
set_option maxRecDepth 100000 in
theorem kX1_size (l : Launch) (D : va_G) (ac : Nat → ClassId) {sh : Nat → Nat × Nat} {rf : Nat → Nat → Option Nat} {mem : Nat → Nat → Int} (a a0 a1 a2 : Nat) (ds : Dfs) (hO : CmO sh rf a a0 a1 a2) (hv : CmV mem a a0 a1 a2 ds) : gMet l D ac mX1_size 0 [.ref a] 0 0 sh rf mem (pP sh rf mem (fun r => r = ds.length)) := by
  refine gMet.mk (by decide) (by intro v hv; simp at hv; (try rcases hv with rfl) <;> rfl) (Nat.le_of_ble_eq_true rfl) (fun X hC hI => ?_)
  show gG X sh rf mem 0 0 0 [some (.ref a)] []
  have hO9 := hO
  have hv9 := hv
  obtain ⟨n1, n2, n3⟩ := hO.ne
  obtain ⟨ho, hr0, hr1, hr2, hs0, hs1, hs2, n4, n5, n6⟩ := hO
  obtain ⟨hv1, hv2, hv3⟩ := hv
  have x1 := n1.symm
  have x2 := n2.symm
  have x3 := n3.symm
  have x4 := n4.symm
  have x5 := n5.symm
  have x6 := n6.symm
  refine g_aload_n hC dX1_size_0 rfl ?_
  refine g_getI hC fdX1_25 (by assumption) dX1_size_1 ?_
  refine g_iret hC hI rfl dX1_size_4 (Nat.le_of_ble_eq_true rfl) (Nat.le_of_ble_eq_true rfl) ⟨rfl, rfl, rfl, _, rfl, ?_⟩
  omega
set_option maxHeartbeats 4000000 in
set_option maxRecDepth 100000 in
theorem kX1_exchangeLookAhead (l : Launch) (D : va_G) (ac : Nat → ClassId) {sh : Nat → Nat × Nat} {rf : Nat → Nat → Option Nat} {mem : Nat → Nat → Int} (a a0 a1 a2 : Nat) (ds : Dfs) (n : Int) (hO : CmO sh rf a a0 a1 a2) (hv : CmV mem a a0 a1 a2 ds) : gMet l D ac mX1_exchangeLookAhead 0 [.ref a, .int (iI n)] 0 0 sh rf mem (pM sh rf (fun r mem1 => r = mem a 4 ∧ mem1 = gup mem a 4 n)) := by
  refine gMet.mk (by decide) (by intro v hv; simp at hv; (try rcases hv with rfl | rfl) <;> rfl) (Nat.le_of_ble_eq_true rfl) (fun X hC hI => ?_)
  show gG X sh rf mem 0 0 0 [some (.ref a), some (.int (iI n)), none] []
  have hO9 := hO
  have hv9 := hv
  obtain ⟨n1, n2, n3⟩ := hO.ne
  obtain ⟨ho, hr0, hr1, hr2, hs0, hs1, hs2, n4, n5, n6⟩ := hO
  obtain ⟨hv1, hv2, hv3⟩ := hv
  have x1 := n1.symm
  have x2 := n2.symm
  have x3 := n3.symm
  have x4 := n4.symm
  have x5 := n5.symm
  have x6 := n6.symm
  refine g_aload_n hC dX1_exchangeLookAhead_0 rfl ?_
  refine g_getI hC fdX1_21 (by assumption) dX1_exchangeLookAhead_1 ?_
  refine g_istore_n hC 2 rfl dX1_exchangeLookAhead_4 (Nat.le_of_ble_eq_true rfl) ?_
  dsimp only [List.set]
  refine g_aload_n hC dX1_exchangeLookAhead_5 rfl ?_
  refine g_iload_n hC dX1_exchangeLookAhead_6 rfl ?_
  refine g_putI hC fdX1_21 (by assumption) rfl rfl dX1_exchangeLookAhead_7 ?_
  refine g_iload_n hC dX1_exchangeLookAhead_10 rfl ?_
  refine g_iret hC hI rfl dX1_exchangeLookAhead_11 (Nat.le_of_ble_eq_true rfl) (Nat.le_of_ble_eq_true rfl) ⟨rfl, rfl, _, rfl, ?_⟩
  exact ⟨rfl, rfl⟩
def tellD (ds : Dfs) (i w : Int) : Int := if i < 0 ∨ ds.length ≤ i then -1 else if w = 0 then (df ds i.toNat).1 else if w = 1 then (df ds i.toNat).2.1 else if w = 2 then (df ds i.toNat).2.2 else -1
set_option maxHeartbeats 4000000 in
set_option maxRecDepth 100000 in
theorem kX1_tell (l : Launch) (D : va_G) (ac : Nat → ClassId) {sh : Nat → Nat × Nat} {rf : Nat → Nat → Option Nat} {mem : Nat → Nat → Int} (a a0 a1 a2 : Nat) (ds : Dfs) (i w : Int) (hO : CmO sh rf a a0 a1 a2) (hv : CmV mem a a0 a1 a2 ds) (hp : inR i) (hq : inR w) : gMet l D ac mX1_tell 0 [.ref a, .int (iI i), .int (iI w)] 0 0 sh rf mem (pP sh rf mem (fun r => r = tellD ds i w)) := by
  refine gMet.mk (by decide) (by intro v hv; simp at hv; (try rcases hv with rfl | rfl | rfl) <;> rfl) (Nat.le_of_ble_eq_true rfl) (fun X hC hI => ?_)
  show gG X sh rf mem 0 0 0 [some (.ref a), some (.int (iI i)), some (.int (iI w))] []
  have hO9 := hO
  have hv9 := hv
  obtain ⟨n1, n2, n3⟩ := hO.ne
  obtain ⟨ho, hr0, hr1, hr2, hs0, hs1, hs2, n4, n5, n6⟩ := hO
  obtain ⟨hv1, hv2, hv3⟩ := hv
  have x1 := n1.symm
  have x2 := n2.symm
  have x3 := n3.symm
  have x4 := n4.symm
  have x5 := n5.symm
  have x6 := n6.symm
  obtain ⟨hp1, hp2⟩ := hp
  obtain ⟨hq1, hq2⟩ := hq
  refine g_iload_n hC dX1_tell_0 rfl ?_
  refine g_if_lt (tgt := 12) hC dX1_tell_1 (by decide) ⟨by omega, by omega⟩ (fun h1 => ?_) (fun h1 => ?_)
  · refine g_iconst hC dX1_tell_12 ?_
    refine g_iret hC hI rfl dX1_tell_13 (Nat.le_of_ble_eq_true rfl) (Nat.le_of_ble_eq_true rfl) ⟨rfl, rfl, rfl, _, rfl, ?_⟩
    rw [tellD, if_pos (by omega)]
  · refine g_iload_n hC dX1_tell_4 rfl ?_
    refine g_aload_n hC dX1_tell_5 rfl ?_
    refine g_getI hC fdX1_25 (by assumption) dX1_tell_6 ?_
    refine g_icmp_lt (tgt := 14) hC dX1_tell_9 (by decide) ⟨by omega, by omega⟩ ⟨by omega, by omega⟩ (fun h9 => ?_) (fun h9 => ?_)
    · have q := hv3 i.toNat (by omega)
      refine g_iload_n hC dX1_tell_14 rfl ?_
      rcases (show w = 0 ∨ w = 1 ∨ w = 2 ∨ (w < 0 ∨ 2 < w) by omega) with s15 | s15 | s15 | s15
      · refine g_tableIn (tgt := 40) hC dX1_tell_15 (0) s15 ⟨by decide, by decide⟩ (by decide) (by decide) rfl (by decide) ?_
        refine g_aload_n hC dX1_tell_40 rfl ?_
        refine g_getR hC fdX1_9 (by assumption) (by assumption) dX1_tell_41 ?_
        refine g_iload_n hC dX1_tell_44 rfl ?_
        refine g_iald hC (by assumption) (by omega) (by omega) (by decide) dX1_tell_45 ?_
        refine g_iret hC hI rfl dX1_tell_46 (Nat.le_of_ble_eq_true rfl) (Nat.le_of_ble_eq_true rfl) ⟨rfl, rfl, rfl, _, rfl, ?_⟩
        rw [tellD, if_neg (by omega), if_pos s15]
        exact q.1
      · refine g_tableIn (tgt := 47) hC dX1_tell_15 (1) s15 ⟨by decide, by decide⟩ (by decide) (by decide) rfl (by decide) ?_
        refine g_aload_n hC dX1_tell_47 rfl ?_
        refine g_getR hC fdX1_15 (by assumption) (by assumption) dX1_tell_48 ?_
        refine g_iload_n hC dX1_tell_51 rfl ?_
        refine g_iald hC (by assumption) (by omega) (by omega) (by decide) dX1_tell_52 ?_
        refine g_iret hC hI rfl dX1_tell_53 (Nat.le_of_ble_eq_true rfl) (Nat.le_of_ble_eq_true rfl) ⟨rfl, rfl, rfl, _, rfl, ?_⟩
        rw [tellD, if_neg (by omega), if_neg (by omega), if_pos s15]
        exact q.2.1
      · refine g_tableIn (tgt := 54) hC dX1_tell_15 (2) s15 ⟨by decide, by decide⟩ (by decide) (by decide) rfl (by decide) ?_
        refine g_aload_n hC dX1_tell_54 rfl ?_
        refine g_getR hC fdX1_18 (by assumption) (by assumption) dX1_tell_55 ?_
        refine g_iload_n hC dX1_tell_58 rfl ?_
        refine g_iald hC (by assumption) (by omega) (by omega) (by decide) dX1_tell_59 ?_
        refine g_iret hC hI rfl dX1_tell_60 (Nat.le_of_ble_eq_true rfl) (Nat.le_of_ble_eq_true rfl) ⟨rfl, rfl, rfl, _, rfl, ?_⟩
        rw [tellD, if_neg (by omega), if_neg (by omega), if_neg (by omega), if_pos s15]
        exact q.2.2
      · refine g_tableOut (tgt := 61) hC dX1_tell_15 ⟨by omega, by omega⟩ s15 (by decide) ?_
        refine g_iconst hC dX1_tell_61 ?_
        refine g_iret hC hI rfl dX1_tell_62 (Nat.le_of_ble_eq_true rfl) (Nat.le_of_ble_eq_true rfl) ⟨rfl, rfl, rfl, _, rfl, ?_⟩
        rw [tellD, if_neg (by omega), if_neg (by omega), if_neg (by omega), if_neg (by omega)]
    · refine g_iconst hC dX1_tell_12 ?_
      refine g_iret hC hI rfl dX1_tell_13 (Nat.le_of_ble_eq_true rfl) (Nat.le_of_ble_eq_true rfl) ⟨rfl, rfl, rfl, _, rfl, ?_⟩
      rw [tellD, if_pos (by omega)]
set_option maxHeartbeats 4000000 in
set_option maxRecDepth 100000 in
theorem kX1_keep (l : Launch) (D : va_G) (ac : Nat → ClassId) {sh : Nat → Nat × Nat} {rf : Nat → Nat → Option Nat} {mem : Nat → Nat → Int} (a a0 a1 a2 : Nat) (ds : Dfs) (k f s : Int) (hO : CmO sh rf a a0 a1 a2) (hv : CmV mem a a0 a1 a2 ds) (hl : ds.length < 60) : gMet l D ac mX1_keep 0 [.ref a, .int (iI k), .int (iI f), .int (iI s)] 0 0 sh rf mem (pV sh rf (fun mem1 => CmV mem1 a a0 a1 a2 (ds ++ [(k, f, s)]) ∧ Fr4 mem mem1 a a0 a1 a2 ∧ ∀ j, j ≠ 3 → mem1 a j = mem a j)) := by
  refine gMet.mk (by decide) (by intro v hv; simp at hv; (try rcases hv with rfl | rfl | rfl | rfl) <;> rfl) (Nat.le_of_ble_eq_true rfl) (fun X hC hI => ?_)
  show gG X sh rf mem 0 0 0 [some (.ref a), some (.int (iI k)), some (.int (iI f)), some (.int (iI s))] []
  have hO9 := hO
  have hv9 := hv
  obtain ⟨n1, n2, n3⟩ := hO.ne
  obtain ⟨ho, hr0, hr1, hr2, hs0, hs1, hs2, n4, n5, n6⟩ := hO
  obtain ⟨hv1, hv2, hv3⟩ := hv
  have x1 := n1.symm
  have x2 := n2.symm
  have x3 := n3.symm
  have x4 := n4.symm
  have x5 := n5.symm
  have x6 := n6.symm
  refine g_aload_n hC dX1_keep_0 rfl ?_
  refine g_getI hC fdX1_25 (by assumption) dX1_keep_1 ?_
  refine g_aload_n hC dX1_keep_4 rfl ?_
  refine g_getR hC fdX1_9 (by assumption) (by assumption) dX1_keep_5 ?_
  refine g_len hC (by assumption) (by decide) dX1_keep_8 ?_
  refine g_icmp_ge (tgt := 52) hC dX1_keep_9 (by decide) ⟨by omega, by omega⟩ ⟨by omega, by omega⟩ (fun h9 => ?_) (fun h9 => ?_)
  · exfalso; omega
  · refine g_aload_n hC dX1_keep_12 rfl ?_
    refine g_getR hC fdX1_9 (by assumption) (by assumption) dX1_keep_13 ?_
    refine g_aload_n hC dX1_keep_16 rfl ?_
    refine g_getI hC fdX1_25 (by assumption) dX1_keep_17 ?_
    refine g_iload_n hC dX1_keep_20 rfl ?_
    refine g_iast hC (by assumption) (by omega) (by omega) (by decide) dX1_keep_21 ?_
    refine g_aload_n hC dX1_keep_22 rfl ?_
    refine g_getR hC fdX1_15 (by assumption) (by assumption) dX1_keep_23 ?_
    refine g_aload_n hC dX1_keep_26 rfl ?_
    refine g_getI hC fdX1_25 (by assumption) dX1_keep_27 ?_
    refine g_iload_n hC dX1_keep_30 rfl ?_
    rw [gup_a _ _ _ _ n1]
    refine g_iast hC (by assumption) (by omega) (by omega) (by decide) dX1_keep_31 ?_
    refine g_aload_n hC dX1_keep_32 rfl ?_
    refine g_getR hC fdX1_18 (by assumption) (by assumption) dX1_keep_33 ?_
    refine g_aload_n hC dX1_keep_36 rfl ?_
    refine g_getI hC fdX1_25 (by assumption) dX1_keep_37 ?_
    refine g_iload_n hC dX1_keep_40 rfl ?_
    rw [gup_a _ _ _ _ n2, gup_a _ _ _ _ n1]
    refine g_iast hC (by assumption) (by omega) (by omega) (by decide) dX1_keep_41 ?_
    refine g_aload_n hC dX1_keep_42 rfl ?_
    refine g_dup hC dX1_keep_43 rfl ?_
    refine g_getI hC fdX1_25 (by assumption) dX1_keep_44 ?_
    refine g_iconst hC dX1_keep_47 ?_
    refine g_iadd hC dX1_keep_48 ?_
    refine g_putI hC fdX1_25 (by assumption) rfl rfl dX1_keep_49 ?_
    refine g_vret hC hI rfl dX1_keep_52 (Nat.le_of_ble_eq_true rfl) (Nat.le_of_ble_eq_true rfl) ⟨rfl, rfl, rfl, ?_⟩
    refine CmV_app hO9 hv9 hl ?_
    rw [gup_a _ _ _ _ n3, gup_a _ _ _ _ n2, gup_a _ _ _ _ n1, hv1, Int.toNat_natCast]
set_option maxHeartbeats 4000000 in
set_option maxRecDepth 100000 in
theorem kX1_keepLeft (l : Launch) (D : va_G) (ac : Nat → ClassId) {sh : Nat → Nat × Nat} {rf : Nat → Nat → Option Nat} {mem : Nat → Nat → Int} (a a0 a1 a2 : Nat) (ds : Dfs) (b b0 b1 b2 : Nat) (xs : Lns) (f n : Nat) (k : Int) (hO : CmO sh rf a a0 a1 a2) (hv : CmV mem a a0 a1 a2 ds) (hOb : LnO sh rf b b0 b1 b2) (hib0 : LnI mem b b0 b1 b2) (hvb : LnV mem b b0 b1 b2 xs) (hk : k = 1 ∨ k = 2) (hf : f + n ≤ xs.length) (hl : ds.length + n ≤ 60) : gMet l D ac mX1_keepLeft 2 [.ref a, .ref b, .int (iI f), .int (iI (f + n)), .int (iI k)] 0 0 sh rf mem (pV sh rf (fun mem1 => CmV mem1 a a0 a1 a2 (ds ++ kl k xs f n) ∧ Fr4 mem mem1 a a0 a1 a2 ∧ ∀ j, j ≠ 3 → mem1 a j = mem a j)) := by
  refine gMet.mk (by decide) (by intro v hv; simp at hv; (try rcases hv with rfl | rfl | rfl | rfl | rfl) <;> rfl) (Nat.le_of_ble_eq_true rfl) (fun X hC hI => ?_)
  show gG X sh rf mem 0 0 0 [some (.ref a), some (.ref b), some (.int (iI f)), some (.int (iI (f + n))), some (.int (iI k)), none, none] []
  have hO9 := hO
  have hv9 := hv
  obtain ⟨n1, n2, n3⟩ := hO.ne
  obtain ⟨ho, hr0, hr1, hr2, hs0, hs1, hs2, n4, n5, n6⟩ := hO
  obtain ⟨hv1, hv2, hv3⟩ := hv
  have x1 := n1.symm
  have x2 := n2.symm
  have x3 := n3.symm
  have x4 := n4.symm
  have x5 := n5.symm
  have x6 := n6.symm
  have hO8 := hOb
  have hi8 := hib0
  have hv8 := hvb
  have bo := hOb.1
  have hblen := hv8.1
  have hb30 := hi8.2.1
  have J3 : ∀ (t i : Nat) (m1 : Nat → Nat → Int), i ≤ n → n < i + t → CmV m1 a a0 a1 a2 (ds ++ kl k xs f i) → Fr4 mem m1 a a0 a1 a2 → (∀ j, j ≠ 3 → m1 a j = mem a j) → ∀ o, gG X sh rf m1 0 0 3 [some (.ref a), some (.ref b), some (.int (iI f)), some (.int (iI (f + n))), some (.int (iI k)), some (.int (iI (f + i))), o] [] := by
    intro t
    induction t with
    | zero => intro i m1 i1 i2; omega
    | succ t ih =>
      intro i m1 i1 i2 i3 i4 i5 o
      have hfr := CmLn hO9 hO8 i4
      have hib := LnI.fr hfr hi8
      have hvb := LnV.fr hfr hv8
      have hls := LnV.len hi8 hv8 (f + i)
      have hll : (ds ++ kl k xs f i).length = ds.length + i := by rw [List.length_append, kl_len]
      refine g_iload hC dX1_keepLeft_3 rfl ?_
      refine g_iload_n hC dX1_keepLeft_5 rfl ?_
      refine g_icmp_ge (tgt := 53) hC dX1_keepLeft_6 (by decide) ⟨by omega, by omega⟩ ⟨by omega, by omega⟩ (fun h6 => ?_) (fun h6 => ?_)
      · refine g_vret hC hI rfl dX1_keepLeft_53 (Nat.le_of_ble_eq_true rfl) (Nat.le_of_ble_eq_true rfl) ⟨rfl, rfl, rfl, ?_⟩
        have q : i = n := by omega
        subst q
        exact ⟨i3, i4, i5⟩
      · refine g_aload_n hC dX1_keepLeft_9 rfl ?_
        refine g_iload hC dX1_keepLeft_10 rfl ?_
        refine g_VP hC (kX4_numberAt (gl X) (gD X) (gac X) b b0 b1 b2 xs (f + i) hO8 hib hvb ⟨by omega, by omega⟩) cvX4_numberAt lkX1_52 (by assumption) rfl rfl (Nat.le_of_ble_eq_true rfl) (hI.fit (Nat.le_of_ble_eq_true rfl) (Nat.le_of_ble_eq_true rfl) (Nat.le_of_ble_eq_true rfl)) dX1_keepLeft_12 (fun x12 hx12 => ?_)
        have e12 : x12 = nu xs (f + i) := by
          rw [show ((f : Int) + (i : Int)).toNat = f + i by omega] at hx12
          omega
        subst e12
        refine g_istore hC dX1_keepLeft_15 (Nat.le_of_ble_eq_true rfl) ?_
        dsimp only [List.set]
        refine g_aload_n hC dX1_keepLeft_17 rfl ?_
        refine g_iload hC dX1_keepLeft_18 rfl ?_
        refine g_iload hC dX1_keepLeft_20 rfl ?_
        refine g_iconst hC dX1_keepLeft_22 ?_
        refine g_icmp_ne (tgt := 31) hC dX1_keepLeft_23 (by decide) ⟨by omega, by omega⟩ ⟨by omega, by omega⟩ (fun h23 => ?_) (fun h23 => ?_)
        · refine g_iconst hC dX1_keepLeft_31 ?_
          refine g_iload hC dX1_keepLeft_32 rfl ?_
          refine g_iconst hC dX1_keepLeft_34 ?_
          refine g_icmp_ne (tgt := 43) hC dX1_keepLeft_35 (by decide) ⟨by omega, by omega⟩ ⟨by omega, by omega⟩ (fun h35 => ?_) (fun h35 => ?_)
          · refine g_iconst hC dX1_keepLeft_43 ?_
            refine g_VV hC (kX1_keep (gl X) (gD X) (gac X) a a0 a1 a2 _ _ _ _ hO9 i3 (by omega)) cvX1_keep lkX1_56 (by assumption) rfl rfl (Nat.le_of_ble_eq_true rfl) (hI.fit (Nat.le_of_ble_eq_true rfl) (Nat.le_of_ble_eq_true rfl) (Nat.le_of_ble_eq_true rfl)) dX1_keepLeft_44 (fun mem44 hx44 => ?_)
            refine g_iinc hC dX1_keepLeft_47 rfl ?_
            dsimp only [List.set]
            refine g_goto (tgt := 3) hC dX1_keepLeft_50 (by decide) ?_
            first
            | exact J3 (n + 1) 0 mem (Nat.zero_le _) (by omega) (by simp only [kl, List.append_nil]; exact hv9) Fr4.rf (fun _ _ => rfl) _
            | (exfalso; omega)
            | (have z := ih (i + 1) mem44 (by omega) (by omega) (by
                 rw [kl, ← List.append_assoc]
                 have h44 := hx44.1
                 have e9 : kx k (nu xs (f + i)) = (k, if k = 1 then nu xs (f + i) else 0, if k = 2 then nu xs (f + i) else 0) := rfl
                 rw [e9]
                 first
                 | (rw [if_pos (by omega), if_neg (by omega)]; exact h44)
                 | (rw [if_neg (by omega), if_pos (by omega)]; exact h44)) (i4.trans hx44.2.1) (fun j hj => (hx44.2.2 j hj).trans (i5 j hj)) (some (.int (iI (nu xs (f + i)))))
               rw [show ((f : Int) + ((i + 1 : Nat) : Int)) = f + i + 1 by omega] at z
               exact z)
          · refine g_iload hC dX1_keepLeft_38 rfl ?_
            refine g_goto (tgt := 44) hC dX1_keepLeft_40 (by decide) ?_
            refine g_VV hC (kX1_keep (gl X) (gD X) (gac X) a a0 a1 a2 _ _ _ _ hO9 i3 (by omega)) cvX1_keep lkX1_56 (by assumption) rfl rfl (Nat.le_of_ble_eq_true rfl) (hI.fit (Nat.le_of_ble_eq_true rfl) (Nat.le_of_ble_eq_true rfl) (Nat.le_of_ble_eq_true rfl)) dX1_keepLeft_44 (fun mem44 hx44 => ?_)
            refine g_iinc hC dX1_keepLeft_47 rfl ?_
            dsimp only [List.set]
            refine g_goto (tgt := 3) hC dX1_keepLeft_50 (by decide) ?_
            first
            | exact J3 (n + 1) 0 mem (Nat.zero_le _) (by omega) (by simp only [kl, List.append_nil]; exact hv9) Fr4.rf (fun _ _ => rfl) _
            | (exfalso; omega)
            | (have z := ih (i + 1) mem44 (by omega) (by omega) (by
                 rw [kl, ← List.append_assoc]
                 have h44 := hx44.1
                 have e9 : kx k (nu xs (f + i)) = (k, if k = 1 then nu xs (f + i) else 0, if k = 2 then nu xs (f + i) else 0) := rfl
                 rw [e9]
                 first
                 | (rw [if_pos (by omega), if_neg (by omega)]; exact h44)
                 | (rw [if_neg (by omega), if_pos (by omega)]; exact h44)) (i4.trans hx44.2.1) (fun j hj => (hx44.2.2 j hj).trans (i5 j hj)) (some (.int (iI (nu xs (f + i)))))
               rw [show ((f : Int) + ((i + 1 : Nat) : Int)) = f + i + 1 by omega] at z
               exact z)
        · refine g_iload hC dX1_keepLeft_26 rfl ?_
          refine g_goto (tgt := 32) hC dX1_keepLeft_28 (by decide) ?_
          refine g_iload hC dX1_keepLeft_32 rfl ?_
          refine g_iconst hC dX1_keepLeft_34 ?_
          refine g_icmp_ne (tgt := 43) hC dX1_keepLeft_35 (by decide) ⟨by omega, by omega⟩ ⟨by omega, by omega⟩ (fun h35 => ?_) (fun h35 => ?_)
          · refine g_iconst hC dX1_keepLeft_43 ?_
            refine g_VV hC (kX1_keep (gl X) (gD X) (gac X) a a0 a1 a2 _ _ _ _ hO9 i3 (by omega)) cvX1_keep lkX1_56 (by assumption) rfl rfl (Nat.le_of_ble_eq_true rfl) (hI.fit (Nat.le_of_ble_eq_true rfl) (Nat.le_of_ble_eq_true rfl) (Nat.le_of_ble_eq_true rfl)) dX1_keepLeft_44 (fun mem44 hx44 => ?_)
            refine g_iinc hC dX1_keepLeft_47 rfl ?_
            dsimp only [List.set]
            refine g_goto (tgt := 3) hC dX1_keepLeft_50 (by decide) ?_
            first
            | exact J3 (n + 1) 0 mem (Nat.zero_le _) (by omega) (by simp only [kl, List.append_nil]; exact hv9) Fr4.rf (fun _ _ => rfl) _
            | (exfalso; omega)
            | (have z := ih (i + 1) mem44 (by omega) (by omega) (by
                 rw [kl, ← List.append_assoc]
                 have h44 := hx44.1
                 have e9 : kx k (nu xs (f + i)) = (k, if k = 1 then nu xs (f + i) else 0, if k = 2 then nu xs (f + i) else 0) := rfl
                 rw [e9]
                 first
                 | (rw [if_pos (by omega), if_neg (by omega)]; exact h44)
                 | (rw [if_neg (by omega), if_pos (by omega)]; exact h44)) (i4.trans hx44.2.1) (fun j hj => (hx44.2.2 j hj).trans (i5 j hj)) (some (.int (iI (nu xs (f + i)))))
               rw [show ((f : Int) + ((i + 1 : Nat) : Int)) = f + i + 1 by omega] at z
               exact z)
          · refine g_iload hC dX1_keepLeft_38 rfl ?_
            refine g_goto (tgt := 44) hC dX1_keepLeft_40 (by decide) ?_
            refine g_VV hC (kX1_keep (gl X) (gD X) (gac X) a a0 a1 a2 _ _ _ _ hO9 i3 (by omega)) cvX1_keep lkX1_56 (by assumption) rfl rfl (Nat.le_of_ble_eq_true rfl) (hI.fit (Nat.le_of_ble_eq_true rfl) (Nat.le_of_ble_eq_true rfl) (Nat.le_of_ble_eq_true rfl)) dX1_keepLeft_44 (fun mem44 hx44 => ?_)
            refine g_iinc hC dX1_keepLeft_47 rfl ?_
            dsimp only [List.set]
            refine g_goto (tgt := 3) hC dX1_keepLeft_50 (by decide) ?_
            first
            | exact J3 (n + 1) 0 mem (Nat.zero_le _) (by omega) (by simp only [kl, List.append_nil]; exact hv9) Fr4.rf (fun _ _ => rfl) _
            | (exfalso; omega)
            | (have z := ih (i + 1) mem44 (by omega) (by omega) (by
                 rw [kl, ← List.append_assoc]
                 have h44 := hx44.1
                 have e9 : kx k (nu xs (f + i)) = (k, if k = 1 then nu xs (f + i) else 0, if k = 2 then nu xs (f + i) else 0) := rfl
                 rw [e9]
                 first
                 | (rw [if_pos (by omega), if_neg (by omega)]; exact h44)
                 | (rw [if_neg (by omega), if_pos (by omega)]; exact h44)) (i4.trans hx44.2.1) (fun j hj => (hx44.2.2 j hj).trans (i5 j hj)) (some (.int (iI (nu xs (f + i)))))
               rw [show ((f : Int) + ((i + 1 : Nat) : Int)) = f + i + 1 by omega] at z
               exact z)
  refine g_iload_n hC dX1_keepLeft_0 rfl ?_
  refine g_istore hC dX1_keepLeft_1 (Nat.le_of_ble_eq_true rfl) ?_
  dsimp only [List.set]
  first
  | exact J3 (n + 1) 0 mem (Nat.zero_le _) (by omega) (by simp only [kl, List.append_nil]; exact hv9) Fr4.rf (fun _ _ => rfl) _
  | (exfalso; omega)
  | (have z := ih (i + 1) mem44 (by omega) (by omega) (by
       rw [kl, ← List.append_assoc]
       have h44 := hx44.1
       have e9 : kx k (nu xs (f + i)) = (k, if k = 1 then nu xs (f + i) else 0, if k = 2 then nu xs (f + i) else 0) := rfl
       rw [e9]
       first
       | (rw [if_pos (by omega), if_neg (by omega)]; exact h44)
       | (rw [if_neg (by omega), if_pos (by omega)]; exact h44)) (i4.trans hx44.2.1) (fun j hj => (hx44.2.2 j hj).trans (i5 j hj)) (some (.int (iI (nu xs (f + i)))))
     rw [show ((f : Int) + ((i + 1 : Nat) : Int)) = f + i + 1 by omega] at z
     exact z)
set_option maxHeartbeats 4000000 in
set_option maxRecDepth 100000 in
theorem kX1_meetsAhead (l : Launch) (D : va_G) (ac : Nat → ClassId) {sh : Nat → Nat × Nat} {rf : Nat → Nat → Option Nat} {mem : Nat → Nat → Int} (a a0 a1 a2 : Nat) (ds : Dfs) (b b0 b1 b2 : Nat) (c c0 c1 c2 : Nat) (xs ys : Lns) (i j look : Nat) (hO : CmO sh rf a a0 a1 a2) (hv : CmV mem a a0 a1 a2 ds) (hOb : LnO sh rf b b0 b1 b2) (hib0 : LnI mem b b0 b1 b2) (hvb : LnV mem b b0 b1 b2 xs) (hOc : LnO sh rf c c0 c1 c2) (hic0 : LnI mem c c0 c1 c2) (hvc : LnV mem c c0 c1 c2 ys) (hlk : mem a 4 = look ∧ look ≤ 9) (hij : i ≤ 30 ∧ j ≤ 30) : gMet l D ac mX1_meetsAhead 2 [.ref a, .ref b, .int (iI i), .ref c, .int (iI j)] 0 0 sh rf mem (pM sh rf (fun r mem1 => (r = 1 ∧ ∃ p, Mn look xs ys i j p ∧ mem1 = gup (gup mem a 5 p.2) a 6 (p.1 - p.2 : Nat)) ∨ (r = 0 ∧ (∀ q : Nat × Nat, 1 ≤ q.1 → q.1 ≤ look → q.2 ≤ q.1 → ¬ okP xs ys (i + q.2) (j + q.1 - q.2)) ∧ mem1 = mem))) := by
  refine gMet.mk (by decide) (by intro v hv; simp at hv; (try rcases hv with rfl | rfl | rfl | rfl | rfl) <;> rfl) (Nat.le_of_ble_eq_true rfl) (fun X hC hI => ?_)
  show gG X sh rf mem 0 0 0 [some (.ref a), some (.ref b), some (.int (iI i)), some (.ref c), some (.int (iI j)), none, none] []
  have hO9 := hO
  have hv9 := hv
  obtain ⟨n1, n2, n3⟩ := hO.ne
  obtain ⟨ho, hr0, hr1, hr2, hs0, hs1, hs2, n4, n5, n6⟩ := hO
  obtain ⟨hv1, hv2, hv3⟩ := hv
  have x1 := n1.symm
  have x2 := n2.symm
  have x3 := n3.symm
  have x4 := n4.symm
  have x5 := n5.symm
  have x6 := n6.symm
  have hO8 := hOb
  have hi8 := hib0
  have hv8 := hvb
  have bo := hOb.1
  have hblen := hv8.1
  have hb30 := hi8.2.1
  have hO7 := hOc
  have hi7 := hic0
  have hv7 := hvc
  have co := hOc.1
  have hclen := hv7.1
  have hc30 := hi7.2.1
  have J15 : ∀ (all : Nat), 1 ≤ all → all ≤ look → (∀ q : Nat × Nat, 1 ≤ q.1 → q.2 ≤ q.1 → q.1 < all → ¬ okP xs ys (i + q.2) (j + q.1 - q.2)) → ((∀ q : Nat × Nat, 1 ≤ q.1 → q.2 ≤ q.1 → q.1 < all + 1 → ¬ okP xs ys (i + q.2) (j + q.1 - q.2)) → gG X sh rf mem 0 0 65 [some (.ref a), some (.ref b), some (.int (iI i)), some (.ref c), some (.int (iI j)), some (.int (iI all)), some (.int (iI (all + 1)))] []) → ∀ (t l : Nat), l ≤ all + 1 → all + 1 < l + t → (∀ e, e < l → ¬ okP xs ys (i + e) (j + all - e)) → gG X sh rf mem 0 0 15 [some (.ref a), some (.ref b), some (.int (iI i)), some (.ref c), some (.int (iI j)), some (.int (iI all)), some (.int (iI l))] [] := by
    intro all a1' a2' a3 K t
    induction t with
    | zero => intro l l1 l2; omega
    | succ t ih =>
      intro l l1 l2 l3
      refine g_iload hC dX1_meetsAhead_15 rfl ?_
      refine g_iload hC dX1_meetsAhead_17 rfl ?_
      refine g_icmp_gt (tgt := 65) hC dX1_meetsAhead_19 (by decide) ⟨by omega, by omega⟩ ⟨by omega, by omega⟩ (fun h19 => ?_) (fun h19 => ?_)
      · obtain rfl : l = all + 1 := by omega
        refine K (fun q => ?_)
        intro q1 q2 q3
        by_cases z : q.1 = all
        · rw [z]; exact l3 q.2 (by omega)
        · exact a3 q q1 q2 (by omega)
      · refine g_aload_n hC dX1_meetsAhead_22 rfl ?_
        refine g_iload_n hC dX1_meetsAhead_23 rfl ?_
        refine g_iload hC dX1_meetsAhead_24 rfl ?_
        refine g_iadd hC dX1_meetsAhead_26 ?_
        refine g_aload_n hC dX1_meetsAhead_27 rfl ?_
        refine g_iload hC dX1_meetsAhead_28 rfl ?_
        refine g_iload hC dX1_meetsAhead_30 rfl ?_
        refine g_iadd hC dX1_meetsAhead_32 ?_
        refine g_iload hC dX1_meetsAhead_33 rfl ?_
        refine g_isub hC dX1_meetsAhead_35 ?_
        refine g_VP hC (kX4_isAlike (gl X) (gD X) (gac X) b b0 b1 b2 c c0 c1 c2 xs ys _ _ hO8 hi8 hv8 hO7 hi7 hv7 ⟨by omega, by omega⟩ ⟨by omega, by omega⟩) cvX4_isAlike lkX1_34 (by assumption) rfl rfl (Nat.le_of_ble_eq_true rfl) (hI.fit (Nat.le_of_ble_eq_true rfl) (Nat.le_of_ble_eq_true rfl) (Nat.le_of_ble_eq_true rfl)) dX1_meetsAhead_36 (fun x36 hx36 => ?_)
        have e1 : ((i : Int) + l).toNat = i + l := by omega
        have e2 : ((j : Int) + all - l).toNat = j + all - l := by omega
        rw [e1, e2] at hx36
        refine g_if_eq (tgt := 59) hC dX1_meetsAhead_39 (by decide) ⟨by omega, by omega⟩ (fun h39 => ?_) (fun h39 => ?_)
        · have hnot : ¬ okP xs ys (i + l) (j + all - l) := fun q => by rcases hx36 with z | z; omega; exact z.2 ⟨by omega, by have := q.1; omega, by omega, by have := q.2.1; omega, q.2.2⟩
          refine g_iinc hC dX1_meetsAhead_59 rfl ?_
          dsimp only [List.set]
          refine g_goto (tgt := 15) hC dX1_meetsAhead_62 (by decide) ?_
          first
          | exact J15 all (by omega) (by omega) k3 (fun h9 => KK h9 (by omega)) (all + 2) 0 (by omega) (by omega) (fun e he => absurd he (Nat.not_lt_zero e))
          | exact ih (l + 1) (by omega) (by omega) (fun e he => by rcases Nat.lt_succ_iff_lt_or_eq.mp he with q | rfl; exact l3 e q; exact hnot)
        · refine g_aload_n hC dX1_meetsAhead_42 rfl ?_
          refine g_iload hC dX1_meetsAhead_43 rfl ?_
          refine g_putI hC fdX1_42 (by assumption) rfl rfl dX1_meetsAhead_45 ?_
          refine g_aload_n hC dX1_meetsAhead_48 rfl ?_
          refine g_iload hC dX1_meetsAhead_49 rfl ?_
          refine g_iload hC dX1_meetsAhead_51 rfl ?_
          refine g_isub hC dX1_meetsAhead_53 ?_
          refine g_putI hC fdX1_49 (by assumption) rfl rfl dX1_meetsAhead_54 ?_
          refine g_iconst hC dX1_meetsAhead_57 ?_
          refine g_zret hC hI rfl (by decide +kernel) dX1_meetsAhead_58 (Nat.le_of_ble_eq_true rfl) (Nat.le_of_ble_eq_true rfl) ⟨rfl, rfl, _, rfl, ?_⟩
          refine Or.inl ⟨rfl, (all, l), ⟨a1', a2', by show l ≤ all; omega, ?_, fun q q1 q2 q3 => ?_⟩, ?_⟩
          · rcases hx36 with z | z
            · exact ⟨by show i + l < _; omega, by show j + all - l < _; omega, z.2.2.2.2.2⟩
            · exfalso; omega
          · rcases q3 with q3 | ⟨q3, q4⟩
            · exact a3 q q1 q2 q3
            · have q3' : q.1 = all := q3
              rw [q3']
              exact l3 q.2 q4
          · show _ = gup (gup mem a 5 (l : Int)) a 6 ((all - l : Nat) : Int)
            rw [show ((all - l : Nat) : Int) = (all : Int) - l by omega]
  have J3 : ∀ (t all : Nat), 1 ≤ all → all ≤ look + 1 → look + 1 < all + t → (∀ q : Nat × Nat, 1 ≤ q.1 → q.2 ≤ q.1 → q.1 < all → ¬ okP xs ys (i + q.2) (j + q.1 - q.2)) → ∀ o, gG X sh rf mem 0 0 3 [some (.ref a), some (.ref b), some (.int (iI i)), some (.ref c), some (.int (iI j)), some (.int (iI all)), o] [] := by
    intro t
    induction t with
    | zero => intro all k1 k2 k4; omega
    | succ t ih3 =>
      intro all k1 k2 k4 k3 o
      have KK : (∀ q : Nat × Nat, 1 ≤ q.1 → q.2 ≤ q.1 → q.1 < all + 1 → ¬ okP xs ys (i + q.2) (j + q.1 - q.2)) → all ≤ look → gG X sh rf mem 0 0 65 [some (.ref a), some (.ref b), some (.int (iI i)), some (.ref c), some (.int (iI j)), some (.int (iI all)), some (.int (iI (all + 1)))] [] := by
        intro h9 h8
        refine g_iinc hC dX1_meetsAhead_65 rfl ?_
        dsimp only [List.set]
        refine g_goto (tgt := 3) hC dX1_meetsAhead_68 (by decide) ?_
        exact ih3 (all + 1) (by omega) (by omega) (by omega) h9 _
      refine g_iload hC dX1_meetsAhead_3 rfl ?_
      refine g_aload_n hC dX1_meetsAhead_5 rfl ?_
      refine g_getI hC fdX1_21 (by assumption) dX1_meetsAhead_6 ?_
      refine g_icmp_gt (tgt := 71) hC dX1_meetsAhead_9 (by decide) ⟨by omega, by omega⟩ ⟨by omega, by omega⟩ (fun h9 => ?_) (fun h9 => ?_)
      · refine g_iconst hC dX1_meetsAhead_71 ?_
        refine g_zret hC hI rfl (by decide +kernel) dX1_meetsAhead_72 (Nat.le_of_ble_eq_true rfl) (Nat.le_of_ble_eq_true rfl) ⟨rfl, rfl, _, rfl, ?_⟩
        exact Or.inr ⟨rfl, fun q q1 q2 q3 => k3 q q1 q3 (by omega), rfl⟩
      · refine g_iconst hC dX1_meetsAhead_12 ?_
        refine g_istore hC dX1_meetsAhead_13 (Nat.le_of_ble_eq_true rfl) ?_
        dsimp only [List.set]
        first
        | exact J15 all (by omega) (by omega) k3 (fun h9 => KK h9 (by omega)) (all + 2) 0 (by omega) (by omega) (fun e he => absurd he (Nat.not_lt_zero e))
        | exact ih (l + 1) (by omega) (by omega) (fun e he => by rcases Nat.lt_succ_iff_lt_or_eq.mp he with q | rfl; exact l3 e q; exact hnot)
  refine g_iconst hC dX1_meetsAhead_0 ?_
  refine g_istore hC dX1_meetsAhead_1 (Nat.le_of_ble_eq_true rfl) ?_
  dsimp only [List.set]
  exact J3 (look + 2) 1 (by omega) (by omega) (by omega) (fun q q1 q2 q3 => by omega) _
