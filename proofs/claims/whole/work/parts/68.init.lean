/-! the reference's start; its rows named anew -/
section MI
variable {X : gX} {sh sh0 sh1 : Nat → Nat × Nat} {rf rf0 rf1 : Nat → Nat → Option Nat} {mem mem0 mem1 : Nat → Nat → Int} {cells slots pc : Nat} {lv : List (Option Value)} {st : List Value} {m : Nat} {B : Nat → Nat} {v : Int}
theorem le_sum : ∀ (L : List Nat) (a : Nat), a ∈ L → a ≤ L.sum
  | [], a, h => by cases h
  | b :: t, a, h => by
    rw [List.sum_cons]
    rcases List.mem_cons.mp h with e | e
    · omega
    · have := le_sum t a e; omega
theorem g_fin (k : ∀ N, (∀ a, N ≤ a → (sh a).1 = 0) → gG X sh rf mem cells slots pc lv st) : gG X sh rf mem cells slots pc lv st := by
  obtain ⟨p, l, e, R, s, m, args, below, meth, c, nL, D, ac, A, Q⟩ := X
  intro H locs ls hw hS hl
  have hw9 := hw
  obtain ⟨L, hL, -⟩ := hw
  refine k (L.sum + 1) (fun a ha => ?_) H locs ls hw9 hS hl
  apply Classical.byContradiction
  intro q
  have := le_sum L a ((hL a).mpr q)
  omega
def RWb (f : Nat) : Bool := [4, 5, 6, 7, 8, 9, 10, 11, 12, 13, 14, 15, 16, 17, 19, 20, 21, 22, 25, 26, 27, 30, 31].contains f
def shp : Nat → Nat × Nat
  | 4 => (13, 7)
  | 5 => (12, 81)
  | 6 => (12, 81)
  | 7 => (12, 81)
  | 8 => (13, 81)
  | 9 => (12, 2430)
  | 10 => (12, 2430)
  | 11 => (12, 24300)
  | 12 => (12, 21)
  | 13 => (12, 21)
  | 14 => (12, 21)
  | 15 => (12, 1260)
  | 16 => (13, 21)
  | 17 => (13, 21)
  | 19 => (12, 20)
  | 20 => (12, 20)
  | 21 => (12, 200)
  | 22 => (13, 20)
  | 25 => (12, 60)
  | 26 => (12, 60)
  | 27 => (12, 60)
  | 30 => (12, 250)
  | 31 => (12, 250)
  | _ => (0, 0)
def mIn (ws : List Nat) (sh : Nat → Nat × Nat) (rf : Nat → Nat → Option Nat) (mem : Nat → Nat → Int) (m : Nat) (B : Nat → Nat) (sh0 : Nat → Nat × Nat) (rf0 : Nat → Nat → Option Nat) (mem0 : Nat → Nat → Int) (v : Int) : Prop :=
  sh m = (10, 0) ∧ (∀ f, f ∈ ws → rf m f = some (B f) ∧ sh (B f) = shp f ∧ (shp f).1 ≠ 0 ∧ (sh0 (B f)).1 = 0 ∧ ∀ j, mem (B f) j = 0) ∧ (∀ i j, (B i = B j) = (i = j)) ∧ (∀ i, B i ≠ m) ∧ (∀ i, i ∉ ws → (sh (B i)).1 = 0) ∧ (∀ b, b ≠ m → (∀ f, f ∈ ws → b ≠ B f) → Un sh0 rf0 mem0 sh rf mem b) ∧ mem m 24 = v ∧ ∀ j, j ≠ 24 → mem m j = 0
theorem mIn.start {N : Nat} (hN : ∀ a, N ≤ a → (sh a).1 = 0) (ho : sh m = (10, 0)) (hz : mem m = fun _ => 0) : ∃ B, mIn [] sh rf mem m B sh rf mem 0 := by
  obtain ⟨B, e⟩ : ∃ B : Nat → Nat, ∀ i, B i = N + i := ⟨fun i => N + i, fun _ => rfl⟩
  refine ⟨B, ho, fun f hf => (by cases hf), fun i j => ?_, fun i h => ?_, fun i _ => hN _ (by rw [e]; omega), fun b _ _ => ⟨rfl, rfl, rfl⟩, by rw [hz], fun j _ => by rw [hz]⟩
  · rw [e, e]
    exact propext ⟨fun h => by omega, fun h => by rw [h]⟩
  · rw [e] at h
    have := hN m (by omega)
    rw [ho] at this
    cases this
theorem mIn.step {ws : List Nat} {f q : Nat} {s : Nat × Nat} (h : mIn ws sh rf mem m B sh0 rf0 mem0 v) (hf : f ∉ ws) (hs : shp f = s) (hs0 : s.1 ≠ 0) (hq : (sh q).1 = 0) : ∃ B', mIn (f :: ws) (va_up sh q s) (gur (va_up rf q (fun _ => none)) m f (some q)) (va_up mem q (fun _ => 0)) m B' sh0 rf0 mem0 v := by
  obtain ⟨h1, h2, h3, h4, h5, h6, h7, h8⟩ := h
  have qm : m ≠ q := fun e => by rw [← e, h1] at hq; cases hq
  have inj : ∀ i j, B i = B j → i = j := fun i j e => by rw [h3] at e; exact e
  have nq : ∀ g, g ∈ ws → B g ≠ q := fun g hg e => by
    have w := h2 g hg
    rw [← e, w.2.1] at hq
    exact w.2.2.1 hq
  have nf : ∀ g, g ∈ ws → g ≠ f := fun g hg e => hf (e ▸ hg)
  obtain ⟨C, eC⟩ : ∃ C : Nat → Nat, ∀ i, C i = if i = f then q else if B i = q then B f else B i := ⟨_, fun _ => rfl⟩
  have c1 : C f = q := by rw [eC, if_pos rfl]
  have c2 : ∀ i, i ≠ f → B i = q → C i = B f := fun i a b => by rw [eC, if_neg a, if_pos b]
  have c3 : ∀ i, i ≠ f → B i ≠ q → C i = B i := fun i a b => by rw [eC, if_neg a, if_neg b]
  have ef : ∀ i, C i = q → i = f := fun i e => by
    apply Classical.byContradiction
    intro c
    by_cases d : B i = q
    · rw [c2 i c d] at e; exact c (inj i f (d.trans e.symm))
    · rw [c3 i c d] at e; exact d e
  have eg : ∀ g, g ∈ ws → C g = B g := fun g hg => c3 g (nf g hg) (nq g hg)
  refine ⟨C, ?_, fun g hg => ?_, fun i j => ?_, fun i => ?_, fun i hi => ?_, fun b hb hw => ?_, ?_, fun j hj => ?_⟩
  · rw [va_up_ne _ _ qm]; exact h1
  · rcases List.mem_cons.mp hg with e | hg
    · rw [e, c1]
      refine ⟨gur_s _ _ _ _, by rw [va_up_self, hs], by rw [hs]; exact hs0, ?_, fun j => by rw [va_up_self]⟩
      have u := h6 q (fun e => qm e.symm) (fun g hg e => nq g hg e.symm)
      rw [← u.1]; exact hq
    · have w := h2 g hg
      rw [eg g hg]
      refine ⟨?_, by rw [va_up_ne _ _ (nq g hg)]; exact w.2.1, w.2.2.1, w.2.2.2.1, fun j => by rw [va_up_ne _ _ (nq g hg)]; exact w.2.2.2.2 j⟩
      rw [gur_k _ _ _ _ (nf g hg), va_up_ne _ _ qm]
      exact w.1
  · refine propext ⟨fun e => ?_, fun e => by rw [e]⟩
    by_cases c : i = f
    · rw [c, c1] at e
      rw [c, ef j e.symm]
    · by_cases d : j = f
      · rw [d, c1] at e
        exact absurd (ef i e) c
      · by_cases c4 : B i = q
        · by_cases d4 : B j = q
          · exact inj i j (c4.trans d4.symm)
          · rw [c2 i c c4, c3 j d d4] at e; exact absurd (inj f j e).symm d
        · by_cases d4 : B j = q
          · rw [c3 i c c4, c2 j d d4] at e; exact absurd (inj i f e) c
          · rw [c3 i c c4, c3 j d d4] at e; exact inj i j e
  · by_cases c : i = f
    · rw [c, c1]; exact fun e => qm e.symm
    · by_cases d : B i = q
      · rw [c2 i c d]; exact h4 f
      · rw [c3 i c d]; exact h4 i
  · have i1 : i ≠ f := fun e => hi (e ▸ List.mem_cons_self)
    have i2 : i ∉ ws := fun e => hi (List.mem_cons_of_mem _ e)
    by_cases d : B i = q
    · have w : B f ≠ q := fun e => i1 (inj i f (d.trans e.symm))
      rw [c2 i i1 d, va_up_ne _ _ w]
      exact h5 f hf
    · rw [c3 i i1 d, va_up_ne _ _ d]
      exact h5 i i2
  · have bq : b ≠ q := fun e => hw f List.mem_cons_self (by rw [c1]; exact e)
    have u := h6 b hb (fun g hg e => hw g (List.mem_cons_of_mem _ hg) (by rw [eg g hg]; exact e))
    refine ⟨by rw [va_up_ne _ _ bq]; exact u.1, ?_, by rw [va_up_ne _ _ bq]; exact u.2.2⟩
    funext j
    rw [gur_a _ _ _ _ hb, va_up_ne _ _ bq, u.2.1]
  · rw [va_up_ne _ _ qm]; exact h7
  · rw [va_up_ne _ _ qm]; exact h8 j hj
theorem mIn.look {ws : List Nat} (h : mIn ws sh rf mem m B sh0 rf0 mem0 v) : mIn ws sh rf (gup mem m 24 3) m B sh0 rf0 mem0 3 := by
  obtain ⟨h1, h2, h3, h4, h5, h6, h7, h8⟩ := h
  refine ⟨h1, fun f hf => ?_, h3, h4, h5, fun b hb hw => ?_, gup_s _ _ _ _, fun j hj => by rw [gup_k _ _ _ _ hj]; exact h8 j hj⟩
  · have w := h2 f hf
    exact ⟨w.1, w.2.1, w.2.2.1, w.2.2.2.1, fun j => by rw [gup_a _ _ _ _ (h4 f)]; exact w.2.2.2.2 j⟩
  · have u := h6 b hb hw
    refine ⟨u.1, u.2.1, ?_⟩
    rw [← u.2.2]
    funext j
    rw [gup_a _ _ _ _ hb]
theorem mIn.fin {ws : List Nat} (h : mIn ws sh rf mem m B sh0 rf0 mem0 3) (hw : ∀ f, RWb f = true → f ∈ ws) : MO sh rf m B ∧ MV m B mem [] [] [] [] [] 3 [] [] 0 0 0 := by
  obtain ⟨h1, h2, h3, h4, h5, h6, h7, h8⟩ := h
  have g : ∀ f, RWb f = true → rf m f = some (B f) ∧ sh (B f) = shp f := fun f hf => ⟨(h2 f (hw f hf)).1, (h2 f (hw f hf)).2.1⟩
  refine ⟨⟨h1, (g 4 rfl).1, (g 4 rfl).2, (g 5 rfl).1, (g 5 rfl).2, (g 6 rfl).1, (g 6 rfl).2, (g 7 rfl).1, (g 7 rfl).2, (g 8 rfl).1, (g 8 rfl).2, (g 9 rfl).1, (g 9 rfl).2, (g 10 rfl).1, (g 10 rfl).2, (g 11 rfl).1, (g 11 rfl).2, (g 12 rfl).1, (g 12 rfl).2, (g 13 rfl).1, (g 13 rfl).2, (g 14 rfl).1, (g 14 rfl).2, (g 15 rfl).1, (g 15 rfl).2, (g 16 rfl).1, (g 16 rfl).2, (g 17 rfl).1, (g 17 rfl).2, (g 19 rfl).1, (g 19 rfl).2, (g 20 rfl).1, (g 20 rfl).2, (g 21 rfl).1, (g 21 rfl).2, (g 22 rfl).1, (g 22 rfl).2, (g 25 rfl).1, (g 25 rfl).2, (g 26 rfl).1, (g 26 rfl).2, (g 27 rfl).1, (g 27 rfl).2, (g 30 rfl).1, (g 30 rfl).2, (g 31 rfl).1, (g 31 rfl).2, h3, fun i => eq_false (h4 i), fun i => eq_false (fun e => h4 i e.symm)⟩, ⟨h8 1 (by decide), fun i hi => absurd hi (Nat.not_lt_zero i)⟩, ⟨h8 2 (by decide), fun i hi => absurd hi (Nat.not_lt_zero i), fun i _ => (h2 8 (hw 8 rfl)).2.2.2.2 _⟩, ⟨h8 3 (by decide), fun i hi => absurd hi (Nat.not_lt_zero i), fun i _ => (h2 17 (hw 17 rfl)).2.2.2.2 _⟩, ⟨h8 18 (by decide), fun i hi => absurd hi (Nat.not_lt_zero i)⟩, ⟨h8 23 (by decide), h7, fun i hi => absurd hi (Nat.not_lt_zero i)⟩, ⟨h8 28 (by decide), fun i hi => absurd hi (Nat.not_lt_zero i)⟩, ⟨h8 29 (by decide), fun i hi => absurd hi (Nat.not_lt_zero i)⟩, h8 34 (by decide), h8 32 (by decide), h8 33 (by decide)⟩
/-- its rows beyond the real ones may be any cells that are not there -/
theorem g_re (hM : MO sh rf m B) (k : ∀ B' : Nat → Nat, MO sh rf m B' → (∀ f, RWb f = true → B' f = B f) → (∀ f, RWb f = false → (sh (B' f)).1 = 0) → gG X sh rf mem cells slots pc lv st) : gG X sh rf mem cells slots pc lv st := by
  refine g_fin (fun N hN => ?_)
  have hM9 := hM
  obtain ⟨mo, R4, S4, R5, S5, R6, S6, R7, S7, R8, S8, R9, S9, R10, S10, R11, S11, R12, S12, R13, S13, R14, S14, R15, S15, R16, S16, R17, S17, R19, S19, R20, S20, R21, S21, R22, S22, R25, S25, R26, S26, R27, S27, R30, S30, R31, S31, hBe, hBm, hmB⟩ := hM
  have lt : ∀ a c n, sh a = (c, n) → c ≠ 0 → a < N := fun a c n e hc => by
    apply Classical.byContradiction
    intro q
    have := hN a (by omega)
    rw [e] at this
    exact hc this
  have rows : ∀ f, RWb f = true → B f < N := fun f hf => by
    have : f ∈ [4, 5, 6, 7, 8, 9, 10, 11, 12, 13, 14, 15, 16, 17, 19, 20, 21, 22, 25, 26, 27, 30, 31] := List.contains_iff_mem.mp hf
    simp only [List.mem_cons, List.not_mem_nil, or_false] at this
    rcases this with rfl | rfl | rfl | rfl | rfl | rfl | rfl | rfl | rfl | rfl | rfl | rfl | rfl | rfl | rfl | rfl | rfl | rfl | rfl | rfl | rfl | rfl | rfl
    · exact lt _ _ _ S4 (by decide)
    · exact lt _ _ _ S5 (by decide)
    · exact lt _ _ _ S6 (by decide)
    · exact lt _ _ _ S7 (by decide)
    · exact lt _ _ _ S8 (by decide)
    · exact lt _ _ _ S9 (by decide)
    · exact lt _ _ _ S10 (by decide)
    · exact lt _ _ _ S11 (by decide)
    · exact lt _ _ _ S12 (by decide)
    · exact lt _ _ _ S13 (by decide)
    · exact lt _ _ _ S14 (by decide)
    · exact lt _ _ _ S15 (by decide)
    · exact lt _ _ _ S16 (by decide)
    · exact lt _ _ _ S17 (by decide)
    · exact lt _ _ _ S19 (by decide)
    · exact lt _ _ _ S20 (by decide)
    · exact lt _ _ _ S21 (by decide)
    · exact lt _ _ _ S22 (by decide)
    · exact lt _ _ _ S25 (by decide)
    · exact lt _ _ _ S26 (by decide)
    · exact lt _ _ _ S27 (by decide)
    · exact lt _ _ _ S30 (by decide)
    · exact lt _ _ _ S31 (by decide)
  have inj : ∀ i j, B i = B j → i = j := fun i j e => by rw [hBe] at e; exact e
  have mN : m < N := lt m 10 0 mo (by decide)
  refine k (fun f => bif RWb f then B f else N + f) ⟨mo, R4, S4, R5, S5, R6, S6, R7, S7, R8, S8, R9, S9, R10, S10, R11, S11, R12, S12, R13, S13, R14, S14, R15, S15, R16, S16, R17, S17, R19, S19, R20, S20, R21, S21, R22, S22, R25, S25, R26, S26, R27, S27, R30, S30, R31, S31, fun i j => ?_, fun i => ?_, fun i => ?_⟩ (fun f hf => by simp [hf]) (fun f hf => by simp only [hf, cond_false]; exact hN _ (by omega))
  · refine propext ⟨fun e => ?_, fun e => by rw [e]⟩
    cases c : RWb i <;> cases d : RWb j <;> simp only [c, d, cond_true, cond_false] at e
    · omega
    · have := rows j d; omega
    · have := rows i c; omega
    · exact inj i j e
  · refine eq_false (fun e => ?_)
    cases c : RWb i <;> simp only [c, cond_true, cond_false] at e
    · omega
    · rw [hBm] at e; exact e
  · refine eq_false (fun e => ?_)
    cases c : RWb i <;> simp only [c, cond_true, cond_false] at e
    · omega
    · rw [hmB] at e; exact e
theorem MV.re {B' : Nat → Nat} {rp ex ar : List Int} {ms : List (Option MemT)} {ss : List (Option SetT)} {ch : Lns} {ds : Dfs} {lk : Nat} {g y z : Int} (h : MV m B mem rp ms ss ch ds lk ex ar g y z) (hb : ∀ f, RWb f = true → mem1 (B' f) = mem (B f)) (hm : mem1 m = mem m) : MV m B' mem1 rp ms ss ch ds lk ex ar g y z := by
  unfold MV vL vM vS vC vD vO vI vT mB1 lnM sB1 at *
  rw [hb 4 rfl, hb 5 rfl, hb 6 rfl, hb 7 rfl, hb 8 rfl, hb 9 rfl, hb 10 rfl, hb 11 rfl, hb 12 rfl, hb 13 rfl, hb 14 rfl, hb 15 rfl, hb 16 rfl, hb 17 rfl, hb 19 rfl, hb 20 rfl, hb 21 rfl, hb 22 rfl, hb 25 rfl, hb 26 rfl, hb 27 rfl, hb 30 rfl, hb 31 rfl, hm]
  exact h
end MI
set_option maxHeartbeats 4000000 in
set_option maxRecDepth 100000 in
theorem kX10_init (lc : Launch) (D : va_G) (ac : Nat → ClassId) {sh : Nat → Nat × Nat} {rf : Nat → Nat → Option Nat} {mem : Nat → Nat → Int} (m : Nat) (ho : sh m = (10, 0)) (hz : mem m = fun _ => 0) : gMet lc D ac mX10_init 1 [.ref m] 23 31796 sh rf mem (pU (fun sh1 rf1 mem1 => ∃ B, MO sh1 rf1 m B ∧ MV m B mem1 [] [] [] [] [] 3 [] [] 0 0 0 ∧ (∀ f, RWb f = true → (sh (B f)).1 = 0) ∧ ∀ b, b ≠ m → (sh b).1 ≠ 0 → Un sh rf mem sh1 rf1 mem1 b)) := by
  refine gMet.mk (by decide) (by intro v hv; simp at hv; (try rcases hv with rfl) <;> rfl) (Nat.le_of_ble_eq_true rfl) (fun X hC hI => ?_)
  show gG X sh rf mem 0 0 0 [some (.ref m)] []
  refine g_fin (fun N hN => ?_)
  obtain ⟨B0, I0⟩ := mIn.start (rf := rf) (mem := mem) hN ho hz
  refine g_aload_n hC dX10_init_0 rfl ?_
  refine g_objInit hC lkX10_1 oi_in oi_co (by rw [hI.rm]; exact (Nat.le_of_ble_eq_true rfl)) (by rw [hI.rm]; exact (Nat.le_of_ble_eq_true rfl)) dX10_init_1 ?_
  refine g_aload_n hC dX10_init_4 rfl ?_
  refine g_bipush hC dX10_init_5 (by decide +kernel) ?_
  refine g_newaN (atype := .boolean) 7 hC arr_boolean rfl (Or.inr (Or.inr ⟨rfl, rfl, rfl⟩)) rfl (by decide) (by rw [hI.rm]; exact (Nat.le_of_ble_eq_true rfl)) (by rw [hI.rm]; exact (Nat.le_of_ble_eq_true rfl)) dX10_init_7 (fun q7 sh7 rf7 mem7 hq7 esh7 erf7 emem7 => ?_)
  have mo7 := sh_keep esh7 hq7 ho (by decide)
  refine g_putR hC fdX10_7 hI.nm (fun C T N h => by cases h; rfl) (by assumption) rfl rfl dX10_init_9 ?_
  obtain ⟨B4, I4⟩ := I0.step (f := 4) (s := (13, 7)) (by decide) rfl (by decide) hq7
  rw [← esh7, ← erf7, ← emem7] at I4
  refine g_aload_n hC dX10_init_12 rfl ?_
  refine g_bipush hC dX10_init_13 (by decide +kernel) ?_
  refine g_newaN (atype := .int) 81 hC arr_int rfl (Or.inr (Or.inl ⟨rfl, rfl, rfl⟩)) rfl (by decide) (by rw [hI.rm]; exact (Nat.le_of_ble_eq_true rfl)) (by rw [hI.rm]; exact (Nat.le_of_ble_eq_true rfl)) dX10_init_15 (fun q15 sh15 rf15 mem15 hq15 esh15 erf15 emem15 => ?_)
  have mo15 := sh_keep esh15 hq15 mo7 (by decide)
  refine g_putR hC fdX10_13 hI.nm (fun C T N h => by cases h; rfl) (by assumption) rfl rfl dX10_init_17 ?_
  obtain ⟨B5, I5⟩ := I4.step (f := 5) (s := (12, 81)) (by decide) rfl (by decide) hq15
  rw [← esh15, ← erf15, ← emem15] at I5
  refine g_aload_n hC dX10_init_20 rfl ?_
  refine g_bipush hC dX10_init_21 (by decide +kernel) ?_
  refine g_newaN (atype := .int) 81 hC arr_int rfl (Or.inr (Or.inl ⟨rfl, rfl, rfl⟩)) rfl (by decide) (by rw [hI.rm]; exact (Nat.le_of_ble_eq_true rfl)) (by rw [hI.rm]; exact (Nat.le_of_ble_eq_true rfl)) dX10_init_23 (fun q23 sh23 rf23 mem23 hq23 esh23 erf23 emem23 => ?_)
  have mo23 := sh_keep esh23 hq23 mo15 (by decide)
  refine g_putR hC fdX10_17 hI.nm (fun C T N h => by cases h; rfl) (by assumption) rfl rfl dX10_init_25 ?_
  obtain ⟨B6, I6⟩ := I5.step (f := 6) (s := (12, 81)) (by decide) rfl (by decide) hq23
  rw [← esh23, ← erf23, ← emem23] at I6
  refine g_aload_n hC dX10_init_28 rfl ?_
  refine g_bipush hC dX10_init_29 (by decide +kernel) ?_
  refine g_newaN (atype := .int) 81 hC arr_int rfl (Or.inr (Or.inl ⟨rfl, rfl, rfl⟩)) rfl (by decide) (by rw [hI.rm]; exact (Nat.le_of_ble_eq_true rfl)) (by rw [hI.rm]; exact (Nat.le_of_ble_eq_true rfl)) dX10_init_31 (fun q31 sh31 rf31 mem31 hq31 esh31 erf31 emem31 => ?_)
  have mo31 := sh_keep esh31 hq31 mo23 (by decide)
  refine g_putR hC fdX10_20 hI.nm (fun C T N h => by cases h; rfl) (by assumption) rfl rfl dX10_init_33 ?_
  obtain ⟨B7, I7⟩ := I6.step (f := 7) (s := (12, 81)) (by decide) rfl (by decide) hq31
  rw [← esh31, ← erf31, ← emem31] at I7
  refine g_aload_n hC dX10_init_36 rfl ?_
  refine g_bipush hC dX10_init_37 (by decide +kernel) ?_
  refine g_newaN (atype := .boolean) 81 hC arr_boolean rfl (Or.inr (Or.inr ⟨rfl, rfl, rfl⟩)) rfl (by decide) (by rw [hI.rm]; exact (Nat.le_of_ble_eq_true rfl)) (by rw [hI.rm]; exact (Nat.le_of_ble_eq_true rfl)) dX10_init_39 (fun q39 sh39 rf39 mem39 hq39 esh39 erf39 emem39 => ?_)
  have mo39 := sh_keep esh39 hq39 mo31 (by decide)
  refine g_putR hC fdX10_23 hI.nm (fun C T N h => by cases h; rfl) (by assumption) rfl rfl dX10_init_41 ?_
  obtain ⟨B8, I8⟩ := I7.step (f := 8) (s := (13, 81)) (by decide) rfl (by decide) hq39
  rw [← esh39, ← erf39, ← emem39] at I8
  refine g_aload_n hC dX10_init_44 rfl ?_
  refine g_sipush hC dX10_init_45 (by decide +kernel) ?_
  refine g_newaN (atype := .int) 2430 hC arr_int rfl (Or.inr (Or.inl ⟨rfl, rfl, rfl⟩)) rfl (by decide) (by rw [hI.rm]; exact (Nat.le_of_ble_eq_true rfl)) (by rw [hI.rm]; exact (Nat.le_of_ble_eq_true rfl)) dX10_init_48 (fun q48 sh48 rf48 mem48 hq48 esh48 erf48 emem48 => ?_)
  have mo48 := sh_keep esh48 hq48 mo39 (by decide)
  refine g_putR hC fdX10_26 hI.nm (fun C T N h => by cases h; rfl) (by assumption) rfl rfl dX10_init_50 ?_
  obtain ⟨B9, I9⟩ := I8.step (f := 9) (s := (12, 2430)) (by decide) rfl (by decide) hq48
  rw [← esh48, ← erf48, ← emem48] at I9
  refine g_aload_n hC dX10_init_53 rfl ?_
  refine g_sipush hC dX10_init_54 (by decide +kernel) ?_
  refine g_newaN (atype := .int) 2430 hC arr_int rfl (Or.inr (Or.inl ⟨rfl, rfl, rfl⟩)) rfl (by decide) (by rw [hI.rm]; exact (Nat.le_of_ble_eq_true rfl)) (by rw [hI.rm]; exact (Nat.le_of_ble_eq_true rfl)) dX10_init_57 (fun q57 sh57 rf57 mem57 hq57 esh57 erf57 emem57 => ?_)
  have mo57 := sh_keep esh57 hq57 mo48 (by decide)
  refine g_putR hC fdX10_29 hI.nm (fun C T N h => by cases h; rfl) (by assumption) rfl rfl dX10_init_59 ?_
  obtain ⟨B10, I10⟩ := I9.step (f := 10) (s := (12, 2430)) (by decide) rfl (by decide) hq57
  rw [← esh57, ← erf57, ← emem57] at I10
  refine g_aload_n hC dX10_init_62 rfl ?_
  refine g_sipush hC dX10_init_63 (by decide +kernel) ?_
  refine g_newaN (atype := .int) 24300 hC arr_int rfl (Or.inr (Or.inl ⟨rfl, rfl, rfl⟩)) rfl (by decide) (by rw [hI.rm]; exact (Nat.le_of_ble_eq_true rfl)) (by rw [hI.rm]; exact (Nat.le_of_ble_eq_true rfl)) dX10_init_66 (fun q66 sh66 rf66 mem66 hq66 esh66 erf66 emem66 => ?_)
  have mo66 := sh_keep esh66 hq66 mo57 (by decide)
  refine g_putR hC fdX10_32 hI.nm (fun C T N h => by cases h; rfl) (by assumption) rfl rfl dX10_init_68 ?_
  obtain ⟨B11, I11⟩ := I10.step (f := 11) (s := (12, 24300)) (by decide) rfl (by decide) hq66
  rw [← esh66, ← erf66, ← emem66] at I11
  refine g_aload_n hC dX10_init_71 rfl ?_
  refine g_bipush hC dX10_init_72 (by decide +kernel) ?_
  refine g_newaN (atype := .int) 21 hC arr_int rfl (Or.inr (Or.inl ⟨rfl, rfl, rfl⟩)) rfl (by decide) (by rw [hI.rm]; exact (Nat.le_of_ble_eq_true rfl)) (by rw [hI.rm]; exact (Nat.le_of_ble_eq_true rfl)) dX10_init_74 (fun q74 sh74 rf74 mem74 hq74 esh74 erf74 emem74 => ?_)
  have mo74 := sh_keep esh74 hq74 mo66 (by decide)
  refine g_putR hC fdX10_35 hI.nm (fun C T N h => by cases h; rfl) (by assumption) rfl rfl dX10_init_76 ?_
  obtain ⟨B12, I12⟩ := I11.step (f := 12) (s := (12, 21)) (by decide) rfl (by decide) hq74
  rw [← esh74, ← erf74, ← emem74] at I12
  refine g_aload_n hC dX10_init_79 rfl ?_
  refine g_bipush hC dX10_init_80 (by decide +kernel) ?_
  refine g_newaN (atype := .int) 21 hC arr_int rfl (Or.inr (Or.inl ⟨rfl, rfl, rfl⟩)) rfl (by decide) (by rw [hI.rm]; exact (Nat.le_of_ble_eq_true rfl)) (by rw [hI.rm]; exact (Nat.le_of_ble_eq_true rfl)) dX10_init_82 (fun q82 sh82 rf82 mem82 hq82 esh82 erf82 emem82 => ?_)
  have mo82 := sh_keep esh82 hq82 mo74 (by decide)
  refine g_putR hC fdX10_38 hI.nm (fun C T N h => by cases h; rfl) (by assumption) rfl rfl dX10_init_84 ?_
  obtain ⟨B13, I13⟩ := I12.step (f := 13) (s := (12, 21)) (by decide) rfl (by decide) hq82
  rw [← esh82, ← erf82, ← emem82] at I13
  refine g_aload_n hC dX10_init_87 rfl ?_
  refine g_bipush hC dX10_init_88 (by decide +kernel) ?_
  refine g_newaN (atype := .int) 21 hC arr_int rfl (Or.inr (Or.inl ⟨rfl, rfl, rfl⟩)) rfl (by decide) (by rw [hI.rm]; exact (Nat.le_of_ble_eq_true rfl)) (by rw [hI.rm]; exact (Nat.le_of_ble_eq_true rfl)) dX10_init_90 (fun q90 sh90 rf90 mem90 hq90 esh90 erf90 emem90 => ?_)
  have mo90 := sh_keep esh90 hq90 mo82 (by decide)
  refine g_putR hC fdX10_41 hI.nm (fun C T N h => by cases h; rfl) (by assumption) rfl rfl dX10_init_92 ?_
  obtain ⟨B14, I14⟩ := I13.step (f := 14) (s := (12, 21)) (by decide) rfl (by decide) hq90
  rw [← esh90, ← erf90, ← emem90] at I14
  refine g_aload_n hC dX10_init_95 rfl ?_
  refine g_sipush hC dX10_init_96 (by decide +kernel) ?_
  refine g_newaN (atype := .int) 1260 hC arr_int rfl (Or.inr (Or.inl ⟨rfl, rfl, rfl⟩)) rfl (by decide) (by rw [hI.rm]; exact (Nat.le_of_ble_eq_true rfl)) (by rw [hI.rm]; exact (Nat.le_of_ble_eq_true rfl)) dX10_init_99 (fun q99 sh99 rf99 mem99 hq99 esh99 erf99 emem99 => ?_)
  have mo99 := sh_keep esh99 hq99 mo90 (by decide)
  refine g_putR hC fdX10_44 hI.nm (fun C T N h => by cases h; rfl) (by assumption) rfl rfl dX10_init_101 ?_
  obtain ⟨B15, I15⟩ := I14.step (f := 15) (s := (12, 1260)) (by decide) rfl (by decide) hq99
  rw [← esh99, ← erf99, ← emem99] at I15
  refine g_aload_n hC dX10_init_104 rfl ?_
  refine g_bipush hC dX10_init_105 (by decide +kernel) ?_
  refine g_newaN (atype := .boolean) 21 hC arr_boolean rfl (Or.inr (Or.inr ⟨rfl, rfl, rfl⟩)) rfl (by decide) (by rw [hI.rm]; exact (Nat.le_of_ble_eq_true rfl)) (by rw [hI.rm]; exact (Nat.le_of_ble_eq_true rfl)) dX10_init_107 (fun q107 sh107 rf107 mem107 hq107 esh107 erf107 emem107 => ?_)
  have mo107 := sh_keep esh107 hq107 mo99 (by decide)
  refine g_putR hC fdX10_47 hI.nm (fun C T N h => by cases h; rfl) (by assumption) rfl rfl dX10_init_109 ?_
  obtain ⟨B16, I16⟩ := I15.step (f := 16) (s := (13, 21)) (by decide) rfl (by decide) hq107
  rw [← esh107, ← erf107, ← emem107] at I16
  refine g_aload_n hC dX10_init_112 rfl ?_
  refine g_bipush hC dX10_init_113 (by decide +kernel) ?_
  refine g_newaN (atype := .boolean) 21 hC arr_boolean rfl (Or.inr (Or.inr ⟨rfl, rfl, rfl⟩)) rfl (by decide) (by rw [hI.rm]; exact (Nat.le_of_ble_eq_true rfl)) (by rw [hI.rm]; exact (Nat.le_of_ble_eq_true rfl)) dX10_init_115 (fun q115 sh115 rf115 mem115 hq115 esh115 erf115 emem115 => ?_)
  have mo115 := sh_keep esh115 hq115 mo107 (by decide)
  refine g_putR hC fdX10_50 hI.nm (fun C T N h => by cases h; rfl) (by assumption) rfl rfl dX10_init_117 ?_
  obtain ⟨B17, I17⟩ := I16.step (f := 17) (s := (13, 21)) (by decide) rfl (by decide) hq115
  rw [← esh115, ← erf115, ← emem115] at I17
  refine g_aload_n hC dX10_init_120 rfl ?_
  refine g_bipush hC dX10_init_121 (by decide +kernel) ?_
  refine g_newaN (atype := .int) 20 hC arr_int rfl (Or.inr (Or.inl ⟨rfl, rfl, rfl⟩)) rfl (by decide) (by rw [hI.rm]; exact (Nat.le_of_ble_eq_true rfl)) (by rw [hI.rm]; exact (Nat.le_of_ble_eq_true rfl)) dX10_init_123 (fun q123 sh123 rf123 mem123 hq123 esh123 erf123 emem123 => ?_)
  have mo123 := sh_keep esh123 hq123 mo115 (by decide)
  refine g_putR hC fdX10_53 hI.nm (fun C T N h => by cases h; rfl) (by assumption) rfl rfl dX10_init_125 ?_
  obtain ⟨B19, I19⟩ := I17.step (f := 19) (s := (12, 20)) (by decide) rfl (by decide) hq123
  rw [← esh123, ← erf123, ← emem123] at I19
  refine g_aload_n hC dX10_init_128 rfl ?_
  refine g_bipush hC dX10_init_129 (by decide +kernel) ?_
  refine g_newaN (atype := .int) 20 hC arr_int rfl (Or.inr (Or.inl ⟨rfl, rfl, rfl⟩)) rfl (by decide) (by rw [hI.rm]; exact (Nat.le_of_ble_eq_true rfl)) (by rw [hI.rm]; exact (Nat.le_of_ble_eq_true rfl)) dX10_init_131 (fun q131 sh131 rf131 mem131 hq131 esh131 erf131 emem131 => ?_)
  have mo131 := sh_keep esh131 hq131 mo123 (by decide)
  refine g_putR hC fdX10_56 hI.nm (fun C T N h => by cases h; rfl) (by assumption) rfl rfl dX10_init_133 ?_
  obtain ⟨B20, I20⟩ := I19.step (f := 20) (s := (12, 20)) (by decide) rfl (by decide) hq131
  rw [← esh131, ← erf131, ← emem131] at I20
  refine g_aload_n hC dX10_init_136 rfl ?_
  refine g_sipush hC dX10_init_137 (by decide +kernel) ?_
  refine g_newaN (atype := .int) 200 hC arr_int rfl (Or.inr (Or.inl ⟨rfl, rfl, rfl⟩)) rfl (by decide) (by rw [hI.rm]; exact (Nat.le_of_ble_eq_true rfl)) (by rw [hI.rm]; exact (Nat.le_of_ble_eq_true rfl)) dX10_init_140 (fun q140 sh140 rf140 mem140 hq140 esh140 erf140 emem140 => ?_)
  have mo140 := sh_keep esh140 hq140 mo131 (by decide)
  refine g_putR hC fdX10_59 hI.nm (fun C T N h => by cases h; rfl) (by assumption) rfl rfl dX10_init_142 ?_
  obtain ⟨B21, I21⟩ := I20.step (f := 21) (s := (12, 200)) (by decide) rfl (by decide) hq140
  rw [← esh140, ← erf140, ← emem140] at I21
  refine g_aload_n hC dX10_init_145 rfl ?_
  refine g_bipush hC dX10_init_146 (by decide +kernel) ?_
  refine g_newaN (atype := .boolean) 20 hC arr_boolean rfl (Or.inr (Or.inr ⟨rfl, rfl, rfl⟩)) rfl (by decide) (by rw [hI.rm]; exact (Nat.le_of_ble_eq_true rfl)) (by rw [hI.rm]; exact (Nat.le_of_ble_eq_true rfl)) dX10_init_148 (fun q148 sh148 rf148 mem148 hq148 esh148 erf148 emem148 => ?_)
  have mo148 := sh_keep esh148 hq148 mo140 (by decide)
  refine g_putR hC fdX10_62 hI.nm (fun C T N h => by cases h; rfl) (by assumption) rfl rfl dX10_init_150 ?_
  obtain ⟨B22, I22⟩ := I21.step (f := 22) (s := (13, 20)) (by decide) rfl (by decide) hq148
  rw [← esh148, ← erf148, ← emem148] at I22
  refine g_aload_n hC dX10_init_153 rfl ?_
  refine g_iconst hC dX10_init_154 ?_
  refine g_putI hC fdX10_65 (by assumption) rfl rfl dX10_init_155 ?_
  have I22b := I22.look
  refine g_aload_n hC dX10_init_158 rfl ?_
  refine g_bipush hC dX10_init_159 (by decide +kernel) ?_
  refine g_newaN (atype := .int) 60 hC arr_int rfl (Or.inr (Or.inl ⟨rfl, rfl, rfl⟩)) rfl (by decide) (by rw [hI.rm]; exact (Nat.le_of_ble_eq_true rfl)) (by rw [hI.rm]; exact (Nat.le_of_ble_eq_true rfl)) dX10_init_161 (fun q161 sh161 rf161 mem161 hq161 esh161 erf161 emem161 => ?_)
  have mo161 := sh_keep esh161 hq161 mo148 (by decide)
  refine g_putR hC fdX10_69 hI.nm (fun C T N h => by cases h; rfl) (by assumption) rfl rfl dX10_init_163 ?_
  obtain ⟨B25, I25⟩ := I22b.step (f := 25) (s := (12, 60)) (by decide) rfl (by decide) hq161
  rw [← esh161, ← erf161, ← emem161] at I25
  refine g_aload_n hC dX10_init_166 rfl ?_
  refine g_bipush hC dX10_init_167 (by decide +kernel) ?_
  refine g_newaN (atype := .int) 60 hC arr_int rfl (Or.inr (Or.inl ⟨rfl, rfl, rfl⟩)) rfl (by decide) (by rw [hI.rm]; exact (Nat.le_of_ble_eq_true rfl)) (by rw [hI.rm]; exact (Nat.le_of_ble_eq_true rfl)) dX10_init_169 (fun q169 sh169 rf169 mem169 hq169 esh169 erf169 emem169 => ?_)
  have mo169 := sh_keep esh169 hq169 mo161 (by decide)
  refine g_putR hC fdX10_72 hI.nm (fun C T N h => by cases h; rfl) (by assumption) rfl rfl dX10_init_171 ?_
  obtain ⟨B26, I26⟩ := I25.step (f := 26) (s := (12, 60)) (by decide) rfl (by decide) hq169
  rw [← esh169, ← erf169, ← emem169] at I26
  refine g_aload_n hC dX10_init_174 rfl ?_
  refine g_bipush hC dX10_init_175 (by decide +kernel) ?_
  refine g_newaN (atype := .int) 60 hC arr_int rfl (Or.inr (Or.inl ⟨rfl, rfl, rfl⟩)) rfl (by decide) (by rw [hI.rm]; exact (Nat.le_of_ble_eq_true rfl)) (by rw [hI.rm]; exact (Nat.le_of_ble_eq_true rfl)) dX10_init_177 (fun q177 sh177 rf177 mem177 hq177 esh177 erf177 emem177 => ?_)
  have mo177 := sh_keep esh177 hq177 mo169 (by decide)
  refine g_putR hC fdX10_75 hI.nm (fun C T N h => by cases h; rfl) (by assumption) rfl rfl dX10_init_179 ?_
  obtain ⟨B27, I27⟩ := I26.step (f := 27) (s := (12, 60)) (by decide) rfl (by decide) hq177
  rw [← esh177, ← erf177, ← emem177] at I27
  refine g_aload_n hC dX10_init_182 rfl ?_
  refine g_sipush hC dX10_init_183 (by decide +kernel) ?_
  refine g_newaN (atype := .int) 250 hC arr_int rfl (Or.inr (Or.inl ⟨rfl, rfl, rfl⟩)) rfl (by decide) (by rw [hI.rm]; exact (Nat.le_of_ble_eq_true rfl)) (by rw [hI.rm]; exact (Nat.le_of_ble_eq_true rfl)) dX10_init_186 (fun q186 sh186 rf186 mem186 hq186 esh186 erf186 emem186 => ?_)
  have mo186 := sh_keep esh186 hq186 mo177 (by decide)
  refine g_putR hC fdX10_78 hI.nm (fun C T N h => by cases h; rfl) (by assumption) rfl rfl dX10_init_188 ?_
  obtain ⟨B30, I30⟩ := I27.step (f := 30) (s := (12, 250)) (by decide) rfl (by decide) hq186
  rw [← esh186, ← erf186, ← emem186] at I30
  refine g_aload_n hC dX10_init_191 rfl ?_
  refine g_sipush hC dX10_init_192 (by decide +kernel) ?_
  refine g_newaN (atype := .int) 250 hC arr_int rfl (Or.inr (Or.inl ⟨rfl, rfl, rfl⟩)) rfl (by decide) (by rw [hI.rm]; exact (Nat.le_of_ble_eq_true rfl)) (by rw [hI.rm]; exact (Nat.le_of_ble_eq_true rfl)) dX10_init_195 (fun q195 sh195 rf195 mem195 hq195 esh195 erf195 emem195 => ?_)
  have mo195 := sh_keep esh195 hq195 mo186 (by decide)
  refine g_putR hC fdX10_81 hI.nm (fun C T N h => by cases h; rfl) (by assumption) rfl rfl dX10_init_197 ?_
  obtain ⟨B31, I31⟩ := I30.step (f := 31) (s := (12, 250)) (by decide) rfl (by decide) hq195
  rw [← esh195, ← erf195, ← emem195] at I31
  refine g_vret hC hI rfl dX10_init_200 (Nat.le_of_ble_eq_true rfl) (Nat.le_of_ble_eq_true rfl) ⟨rfl, ?_⟩
  have hw : ∀ f, RWb f = true → f ∈ [31, 30, 27, 26, 25, 22, 21, 20, 19, 17, 16, 15, 14, 13, 12, 11, 10, 9, 8, 7, 6, 5, 4] := fun f hf => by
    have : f ∈ [4, 5, 6, 7, 8, 9, 10, 11, 12, 13, 14, 15, 16, 17, 19, 20, 21, 22, 25, 26, 27, 30, 31] := List.contains_iff_mem.mp hf
    simp only [List.mem_cons, List.not_mem_nil, or_false] at this ⊢
    omega
  obtain ⟨q1, q2⟩ := I31.fin hw
  refine ⟨B31, q1, q2, fun f hf => (I31.2.1 f (hw f hf)).2.2.2.1, fun b hb hs => I31.2.2.2.2.2.1 b hb (fun f hf e => ?_)⟩
  have := (I31.2.1 f hf).2.2.2.1
  rw [← e] at this
  exact hs this
