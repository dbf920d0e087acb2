/-! a new object -/
section NW
variable {sh sh1 sh2 : Nat → Nat × Nat} {rf rf1 rf2 : Nat → Nat → Option Nat} {mem mem1 mem2 : Nat → Nat → Int} {x q k : Nat}
theorem Un.trans {b : Nat} (h : Un sh rf mem sh1 rf1 mem1 b) (g : Un sh1 rf1 mem1 sh2 rf2 mem2 b) : Un sh rf mem sh2 rf2 mem2 b := ⟨g.1.trans h.1, g.2.1.trans h.2.1, g.2.2.trans h.2.2⟩
/-- one part more -/
theorem grw {s : Nat × Nat} {F : Nat → Prop} (hq : (sh q).1 = 0) (hx : sh x = (9, 0)) (esh : sh1 = va_up sh q s) (erf : rf1 = va_up rf q (fun _ => none)) (emem : mem1 = va_up mem q (fun _ => 0)) (fr : ∀ b, F b → (sh1 b).1 = 0) (f1 : ∀ b, ¬ F b → sh2 b = sh1 b) (f2 : ∀ b, b ≠ q → ¬ F b → rf2 b = rf1 b) (f3 : ∀ b, b ≠ q → ¬ F b → mem2 b = mem1 b) : (∀ b, (sh b).1 ≠ 0 → b ≠ x → Un sh rf mem sh2 (gur rf2 x k (some q)) mem2 b) ∧ (sh2 x = (9, 0) ∧ ∀ j, gur rf2 x k (some q) x j = if j = k then some q else rf x j) := by
  have al : ∀ b, (sh b).1 ≠ 0 → b ≠ q ∧ ¬ F b ∧ sh1 b = sh b := by
    intro b hb
    have h1 : b ≠ q := fun e => hb (by rw [e]; exact hq)
    have h2 : sh1 b = sh b := by rw [esh, va_up_ne _ _ h1]
    exact ⟨h1, fun w => hb (by rw [← h2]; exact fr b w), h2⟩
  refine ⟨fun b hb hbx => ?_, ?_, fun j => ?_⟩
  · obtain ⟨h1, h2, h3⟩ := al b hb
    refine ⟨by rw [f1 b h2, h3], ?_, by rw [f3 b h1 h2, emem, va_up_ne _ _ h1]⟩
    funext j
    rw [gur_a _ _ _ _ hbx, f2 b h1 h2, erf, va_up_ne _ _ h1]
  · obtain ⟨h1, h2, h3⟩ := al x (by rw [hx]; decide)
    rw [f1 x h2, h3]; exact hx
  · obtain ⟨h1, h2, h3⟩ := al x (by rw [hx]; decide)
    by_cases e : j = k
    · subst e
      rw [if_pos rfl, gur_s]
    · rw [if_neg e, gur_k _ _ _ _ e, f2 x h1 h2, erf, va_up_ne _ _ h1]
theorem chn (h : ∀ b, (sh b).1 ≠ 0 → b ≠ x → Un sh rf mem sh1 rf1 mem1 b) (g : ∀ b, (sh1 b).1 ≠ 0 → b ≠ x → Un sh1 rf1 mem1 sh2 rf2 mem2 b) : ∀ b, (sh b).1 ≠ 0 → b ≠ x → Un sh rf mem sh2 rf2 mem2 b := fun b hb hx => (h b hb hx).trans (g b (by rw [(h b hb hx).1]; exact hb) hx)
/-- a part that stands before the object knows it -/
theorem chp {v : Option Nat} (g : ∀ b, (sh b).1 ≠ 0 → b ≠ x → Un sh (gur rf x k v) mem sh2 rf2 mem2 b) (hx : sh x = (9, 0)) : ∀ b s, sh b = s → (s.1 ≠ 0 ∧ s ≠ (9, 0)) → Un sh rf mem sh2 rf2 mem2 b := by
  intro b s e hs
  have hbx : b ≠ x := fun w => hs.2 (by rw [← e, w]; exact hx)
  have hb : (sh b).1 ≠ 0 := by rw [e]; exact hs.1
  have w := g b hb hbx
  refine ⟨w.1, ?_, w.2.2⟩
  rw [w.2.1]
  funext j
  rw [gur_a _ _ _ _ hbx]
end NW
set_option maxHeartbeats 4000000 in
set_option maxRecDepth 100000 in
theorem kX9_init (lc : Launch) (D : va_G) (ac : Nat → ClassId) {sh : Nat → Nat × Nat} {rf : Nat → Nat → Option Nat} {mem : Nat → Nat → Int} (G : Nat → Prop) (x : Nat) (ho : sh x = (9, 0)) (hg : ∀ b, G b → gsh (sh b)) : gMet lc D ac mX9_init 3 [.ref x] 20 1760 sh rf mem (pU (fun sh1 rf1 mem1 => ∃ A, WN G sh rf mem sh1 rf1 mem1 x A [] [] [] [] [] 3 [] [] 0 0 0)) := by
  refine gMet.mk (by decide) (by intro v hv; simp at hv; (try rcases hv with rfl) <;> rfl) (Nat.le_of_ble_eq_true rfl) (fun X hC hI => ?_)
  show gG X sh rf mem 0 0 0 [some (.ref x)] []
  refine g_aload_n hC dX9_init_0 rfl ?_
  refine g_objInit hC lkX9_1 oi_in oi_co (by rw [hI.rm]; exact (Nat.le_of_ble_eq_true rfl)) (by rw [hI.rm]; exact (Nat.le_of_ble_eq_true rfl)) dX9_init_1 ?_
  refine g_aload_n hC dX9_init_4 rfl ?_
  refine g_newN hC neX9_7 (by rw [hI.rm]; exact (Nat.le_of_ble_eq_true rfl)) (by rw [hI.rm]; exact (Nat.le_of_ble_eq_true rfl)) dX9_init_5 (fun q5 sh5 rf5 mem5 hq5 esh5 erf5 emem5 => ?_)
  have ho5 := sh_keep esh5 hq5 ho (by decide)
  have s5 := sh_new esh5
  have z5 : mem5 q5 = fun _ => 0 := by rw [emem5, va_up_self]
  refine g_dup hC dX9_init_8 rfl ?_
  refine g_IUn hC (kX3_init (gl X) (gD X) (gac X) q5 s5 z5) ciX3_init lkX9_9 rfl rfl (Nat.le_of_ble_eq_true rfl) (hI.fit (Nat.le_of_ble_eq_true rfl) (Nat.le_of_ble_eq_true rfl) (Nat.le_of_ble_eq_true rfl)) dX9_init_9 (fun sh9 rf9 mem9 hx9 => ?_)
  obtain ⟨b0, b1, b2, L0, L1, L2, L3, L4, L5, L6, L7⟩ := hx9
  obtain ⟨G1, x1, y1⟩ := grw (k := 0) (x := x) (F := fun b => b = b0 ∨ b = b1 ∨ b = b2) hq5 ho esh5 erf5 emem5 (by rintro b (rfl | rfl | rfl); exact L0; exact L1; exact L2) (fun b w => L5 b (fun e => w (Or.inl e)) (fun e => w (Or.inr (Or.inl e))) (fun e => w (Or.inr (Or.inr e)))) (fun b h w => L6 b h (fun e => w (Or.inl e)) (fun e => w (Or.inr (Or.inl e))) (fun e => w (Or.inr (Or.inr e)))) (fun b h w => L7 b (fun e => w (Or.inl e)) (fun e => w (Or.inr (Or.inl e))) (fun e => w (Or.inr (Or.inr e))))
  have u9 := L3.1
  refine g_putR hC fdX9_10 hI.nm (fun C T N h => by cases h; rfl) (by assumption) rfl rfl dX9_init_12 ?_
  refine g_aload_n hC dX9_init_15 rfl ?_
  refine g_newN hC neX9_16 (by rw [hI.rm]; exact (Nat.le_of_ble_eq_true rfl)) (by rw [hI.rm]; exact (Nat.le_of_ble_eq_true rfl)) dX9_init_16 (fun q16 sh16 rf16 mem16 hq16 esh16 erf16 emem16 => ?_)
  have ho16 := sh_keep esh16 hq16 x1 (by decide)
  have s16 := sh_new esh16
  have z16 : mem16 q16 = fun _ => 0 := by rw [emem16, va_up_self]
  refine g_dup hC dX9_init_19 rfl ?_
  refine g_IUn hC (kX7_init (gl X) (gD X) (gac X) q16 s16 z16) ciX7_init lkX9_18 rfl rfl (Nat.le_of_ble_eq_true rfl) (hI.fit (Nat.le_of_ble_eq_true rfl) (Nat.le_of_ble_eq_true rfl) (Nat.le_of_ble_eq_true rfl)) dX9_init_20 (fun sh20 rf20 mem20 hx20 => ?_)
  obtain ⟨c0, R0, R1, R2, R3, R4⟩ := hx20
  obtain ⟨G2, x2, y2⟩ := grw (k := 1) (x := x) (F := fun b => b = c0) hq16 x1 esh16 erf16 emem16 (by rintro b rfl; exact R0) (fun b w => R2 b w) (fun b h w => R3 b h w) (fun b h w => R4 b w)
  have u20 := (R1 (fun _ => 0) (fun _ => 0)).1
  refine g_putR hC fdX9_19 hI.nm (fun C T N h => by cases h; rfl) (by assumption) rfl rfl dX9_init_23 ?_
  refine g_aload_n hC dX9_init_26 rfl ?_
  refine g_newN hC neX9_23 (by rw [hI.rm]; exact (Nat.le_of_ble_eq_true rfl)) (by rw [hI.rm]; exact (Nat.le_of_ble_eq_true rfl)) dX9_init_27 (fun q27 sh27 rf27 mem27 hq27 esh27 erf27 emem27 => ?_)
  have ho27 := sh_keep esh27 hq27 x2 (by decide)
  have s27 := sh_new esh27
  refine g_dup hC dX9_init_30 rfl ?_
  refine g_IUn hC (kX0_init (gl X) (gD X) (gac X) q27 s27) ciX0_init lkX9_25 rfl rfl (Nat.le_of_ble_eq_true rfl) (hI.fit (Nat.le_of_ble_eq_true rfl) (Nat.le_of_ble_eq_true rfl) (Nat.le_of_ble_eq_true rfl)) dX9_init_31 (fun sh31 rf31 mem31 hx31 => ?_)
  obtain ⟨d, d0, d1, d2, C0, C1, C2, C3, C4, C5, C6, C7, C8, C9, C10⟩ := hx31
  obtain ⟨G3, x3, y3⟩ := grw (k := 2) (x := x) (F := fun b => b = d ∨ b = d0 ∨ b = d1 ∨ b = d2) hq27 x2 esh27 erf27 emem27 (by rintro b (rfl | rfl | rfl | rfl); exact C0; exact C1; exact C2; exact C3) (fun b w => C8 b (fun e => w (Or.inl e)) (fun e => w (Or.inr (Or.inl e))) (fun e => w (Or.inr (Or.inr (Or.inl e)))) (fun e => w (Or.inr (Or.inr (Or.inr e))))) (fun b h w => C9 b h (fun e => w (Or.inl e)) (fun e => w (Or.inr (Or.inl e))) (fun e => w (Or.inr (Or.inr (Or.inl e)))) (fun e => w (Or.inr (Or.inr (Or.inr e))))) (fun b h w => C10 b (fun e => w (Or.inl e)) (fun e => w (Or.inr (Or.inl e))) (fun e => w (Or.inr (Or.inr (Or.inl e)))) (fun e => w (Or.inr (Or.inr (Or.inr e)))))
  have u31 := C4.1
  refine g_putR hC fdX9_26 hI.nm (fun C T N h => by cases h; rfl) (by assumption) rfl rfl dX9_init_34 ?_
  refine g_aload_n hC dX9_init_37 rfl ?_
  refine g_newN hC neX9_30 (by rw [hI.rm]; exact (Nat.le_of_ble_eq_true rfl)) (by rw [hI.rm]; exact (Nat.le_of_ble_eq_true rfl)) dX9_init_38 (fun q38 sh38 rf38 mem38 hq38 esh38 erf38 emem38 => ?_)
  have ho38 := sh_keep esh38 hq38 x3 (by decide)
  have s38 := sh_new esh38
  have z38 : mem38 q38 = fun _ => 0 := by rw [emem38, va_up_self]
  refine g_dup hC dX9_init_41 rfl ?_
  refine g_IUn hC (kX1_init (gl X) (gD X) (gac X) q38 s38 z38) ciX1_init lkX9_32 rfl rfl (Nat.le_of_ble_eq_true rfl) (hI.fit (Nat.le_of_ble_eq_true rfl) (Nat.le_of_ble_eq_true rfl) (Nat.le_of_ble_eq_true rfl)) dX9_init_42 (fun sh42 rf42 mem42 hx42 => ?_)
  obtain ⟨e0, e1, e2, M0, M1, M2, M3, M4, M5, M6, M7, M8⟩ := hx42
  obtain ⟨G4, x4, y4⟩ := grw (k := 3) (x := x) (F := fun b => b = e0 ∨ b = e1 ∨ b = e2) hq38 x3 esh38 erf38 emem38 (by rintro b (rfl | rfl | rfl); exact M0; exact M1; exact M2) (fun b w => M6 b (fun e => w (Or.inl e)) (fun e => w (Or.inr (Or.inl e))) (fun e => w (Or.inr (Or.inr e)))) (fun b h w => M7 b h (fun e => w (Or.inl e)) (fun e => w (Or.inr (Or.inl e))) (fun e => w (Or.inr (Or.inr e)))) (fun b h w => M8 b h (fun e => w (Or.inl e)) (fun e => w (Or.inr (Or.inl e))) (fun e => w (Or.inr (Or.inr e))))
  have u42 := M3.1
  refine g_putR hC fdX9_33 hI.nm (fun C T N h => by cases h; rfl) (by assumption) rfl rfl dX9_init_45 ?_
  refine g_aload_n hC dX9_init_48 rfl ?_
  refine g_newN hC neX9_37 (by rw [hI.rm]; exact (Nat.le_of_ble_eq_true rfl)) (by rw [hI.rm]; exact (Nat.le_of_ble_eq_true rfl)) dX9_init_49 (fun q49 sh49 rf49 mem49 hq49 esh49 erf49 emem49 => ?_)
  have ho49 := sh_keep esh49 hq49 x4 (by decide)
  have s49 := sh_new esh49
  refine g_dup hC dX9_init_52 rfl ?_
  refine g_IUn hC (kX5_init (gl X) (gD X) (gac X) q49 s49) ciX5_init lkX9_39 rfl rfl (Nat.le_of_ble_eq_true rfl) (hI.fit (Nat.le_of_ble_eq_true rfl) (Nat.le_of_ble_eq_true rfl) (Nat.le_of_ble_eq_true rfl)) dX9_init_53 (fun sh53 rf53 mem53 hx53 => ?_)
  obtain ⟨f0, E0, E1, E2, E3, E4⟩ := hx53
  obtain ⟨G5, x5, y5⟩ := grw (k := 4) (x := x) (F := fun b => b = f0) hq49 x4 esh49 erf49 emem49 (by rintro b rfl; exact E0) (fun b w => E2 b w) (fun b h w => E3 b h w) (fun b h w => E4 b w)
  have u53 := E1.1
  refine g_putR hC fdX9_40 hI.nm (fun C T N h => by cases h; rfl) (by assumption) rfl rfl dX9_init_56 ?_
  refine g_aload_n hC dX9_init_59 rfl ?_
  refine g_newN hC neX9_37 (by rw [hI.rm]; exact (Nat.le_of_ble_eq_true rfl)) (by rw [hI.rm]; exact (Nat.le_of_ble_eq_true rfl)) dX9_init_60 (fun q60 sh60 rf60 mem60 hq60 esh60 erf60 emem60 => ?_)
  have ho60 := sh_keep esh60 hq60 x5 (by decide)
  have s60 := sh_new esh60
  refine g_dup hC dX9_init_63 rfl ?_
  refine g_IUn hC (kX5_init (gl X) (gD X) (gac X) q60 s60) ciX5_init lkX9_39 rfl rfl (Nat.le_of_ble_eq_true rfl) (hI.fit (Nat.le_of_ble_eq_true rfl) (Nat.le_of_ble_eq_true rfl) (Nat.le_of_ble_eq_true rfl)) dX9_init_64 (fun sh64 rf64 mem64 hx64 => ?_)
  obtain ⟨g0, A0, A1, A2, A3, A4⟩ := hx64
  obtain ⟨G6, x6, y6⟩ := grw (k := 5) (x := x) (F := fun b => b = g0) hq60 x5 esh60 erf60 emem60 (by rintro b rfl; exact A0) (fun b w => A2 b w) (fun b h w => A3 b h w) (fun b h w => A4 b w)
  have u64 := A1.1
  refine g_putR hC fdX9_44 hI.nm (fun C T N h => by cases h; rfl) (by assumption) rfl rfl dX9_init_67 ?_
  refine g_aload_n hC dX9_init_70 rfl ?_
  refine g_newN hC neX9_47 (by rw [hI.rm]; exact (Nat.le_of_ble_eq_true rfl)) (by rw [hI.rm]; exact (Nat.le_of_ble_eq_true rfl)) dX9_init_71 (fun q71 sh71 rf71 mem71 hq71 esh71 erf71 emem71 => ?_)
  have ho71 := sh_keep esh71 hq71 x6 (by decide)
  have s71 := sh_new esh71
  refine g_dup hC dX9_init_74 rfl ?_
  refine g_IUn hC (kX8_init (gl X) (gD X) (gac X) q71 s71) ciX8_init lkX9_49 rfl rfl (Nat.le_of_ble_eq_true rfl) (hI.fit (Nat.le_of_ble_eq_true rfl) (Nat.le_of_ble_eq_true rfl) (Nat.le_of_ble_eq_true rfl)) dX9_init_75 (fun sh75 rf75 mem75 hx75 => ?_)
  obtain ⟨S1, S2, S3⟩ := hx75
  obtain ⟨G7, x7, y7⟩ := grw (k := 6) (x := x) (sh2 := sh75) (rf2 := rf75) (mem2 := mem75) (F := fun _ => False) hq71 x6 esh71 erf71 emem71 (fun b w => w.elim) (fun b _ => by rw [S1]) (fun b _ _ => by rw [S2]) (fun b _ _ => by rw [S3])
  have u75 : sh75 q71 = (8, 0) := by rw [S1]; exact s71
  refine g_putR hC fdX9_50 hI.nm (fun C T N h => by cases h; rfl) (by assumption) rfl rfl dX9_init_78 ?_
  refine g_vret hC hI rfl dX9_init_81 (Nat.le_of_ble_eq_true rfl) (Nat.le_of_ble_eq_true rfl) ⟨rfl, ?_⟩
  have T6 := G7
  have T5 := chn G6 T6
  have T4 := chn G5 T5
  have T3 := chn G4 T4
  have T2 := chn G3 T3
  have T1 := chn G2 T2
  have T0 := chn G1 T1
  have P1 := chp T1 x1
  have P2 := chp T2 x2
  have P3 := chp T3 x3
  have P4 := chp T4 x4
  have P5 := chp T5 x5
  have P6 := chp T6 x6
  have al : ∀ b, (sh b).1 ≠ 0 → b ≠ x → sh75 b = sh b := fun b h1 h2 => (T0 b h1 h2).1
  have ne0 : ∀ b, sh5 b ≠ (9, 0) → (sh5 b).1 = 0 → (sh b).1 = 0 := by
    intro b _ h
    apply Classical.byContradiction
    intro w
    have : b ≠ q5 := fun e => w (by rw [e]; exact hq5)
    rw [esh5, va_up_ne _ _ this] at h
    exact w h
  have old : ∀ (sk : Nat → Nat × Nat), (∀ b, (sh b).1 ≠ 0 → b ≠ x → sk b = sh b) → sk x = (9, 0) → ∀ (sj : Nat → Nat × Nat) (q : Nat) (s : Nat × Nat), sj = va_up sk q s → (sk q).1 = 0 → ∀ c, (sj c).1 = 0 → (sh c).1 = 0 := by
    intro sk h1 h2 sj q s e hq c hc
    apply Classical.byContradiction
    intro w
    by_cases hcx : c = x
    · have : c ≠ q := fun e9 => by rw [← e9, hcx, h2] at hq; simp at hq
      rw [e, va_up_ne _ _ this, hcx, h2] at hc
      simp at hc
    · have e8 := h1 c w hcx
      have : c ≠ q := fun e9 => by rw [← e9, e8] at hq; exact w hq
      rw [e, va_up_ne _ _ this, e8] at hc
      exact w hc
  have n0 : ∀ b, (sh b).1 ≠ 0 → b ≠ x → sh b = sh b := fun _ _ _ => rfl
  have n1 : ∀ b, (sh b).1 ≠ 0 → b ≠ x → sh9 b = sh b := fun b h1 h2 => (G1 b h1 h2).1
  have H2 := chn G1 G2
  have H3 := chn H2 G3
  have n2 : ∀ b, (sh b).1 ≠ 0 → b ≠ x → sh20 b = sh b := fun b h1 h2 => (H2 b h1 h2).1
  have n3 : ∀ b, (sh b).1 ≠ 0 → b ≠ x → sh31 b = sh b := fun b h1 h2 => (H3 b h1 h2).1
  have ng : ∀ c, (sh c).1 = 0 → ¬ G c := fun c h w => gsh_ne (hg c w) h
  have k3 : ¬ G b2 := ng _ (old sh n0 ho sh5 q5 _ esh5 hq5 _ L2)
  have k8 : ¬ G d0 := ng _ (old sh20 n2 x2 sh27 q27 _ esh27 hq27 _ C1)
  have k9 : ¬ G d1 := ng _ (old sh20 n2 x2 sh27 q27 _ esh27 hq27 _ C2)
  have k12 : ¬ G e0 := ng _ (old sh31 n3 x3 sh38 q38 _ esh38 hq38 _ M0)
  have k13 : ¬ G e1 := ng _ (old sh31 n3 x3 sh38 q38 _ esh38 hq38 _ M1)
  have k14 : ¬ G e2 := ng _ (old sh31 n3 x3 sh38 q38 _ esh38 hq38 _ M2)
  have gx : ∀ b, G b → b ≠ x := fun b w e => by have := hg b w; rw [e, ho] at this; simp [gsh] at this
  have d15 : q49 ≠ q60 := fun e => by rw [← e, u53] at hq60; simp at hq60
  have d16 : f0 ≠ g0 := fun e => by
    have w1 := E1.2.2
    have w2 : f0 ≠ q60 := fun e => by rw [← e, w1] at hq60; simp at hq60
    rw [← e, esh60, va_up_ne _ _ w2, w1] at A0
    simp at A0
  have m71 : mem75 q71 = fun _ => 0 := by rw [S3, emem71, va_up_self]
  obtain ⟨w0, w1, w2, w3, w4, w5, w6⟩ := L3
  have PL := stL ⟨w0, w1, w2, w3, w4, w5, w6⟩ (L4 (fun _ => 0) (fun _ => 0) (fun _ => 0) (fun _ => 0)) (P1 _ _ w0 (by decide)) (P1 _ _ w4 (by decide)) (P1 _ _ w5 (by decide)) (P1 _ _ w6 (by decide)) (fun i hi => absurd rfl hi)
  have R9 := R1 (fun _ => 0) (fun _ => 0)
  have PR := stR R9 (P2 _ _ R9.1 (by decide)) (P2 _ _ R9.2.2.1 (by decide)) (fun i hi => absurd rfl hi)
  obtain ⟨o0, o1, o2, o3, o4, o5, o6, o7⟩ := C5
  have PN := stN ⟨o0, o1, o2, o3, o4, o5, o6, o7⟩ C6 C7 (P3 _ _ o0 (by decide)) (P3 _ _ o4 (by decide)) (P3 _ _ o5 (by decide)) (P3 _ _ o6 (by decide))
  have ut := P3 _ _ C4.1 (by decide)
  obtain ⟨p0, p1, p2, p3, p4, p5, p6, p7⟩ := M3
  have PM := stM ⟨p0, p1, p2, p3, p4, p5, p6, p7⟩ M4 (P4 _ _ p0 (by decide)) (P4 _ _ p4 (by decide)) (P4 _ _ p5 (by decide)) (P4 _ _ p6 (by decide))
  have um := P4 _ _ p0 (by decide)
  have PE := stO E1 (ob := []) ⟨by rw [E4 q49 (fun e => by rw [← e, s49] at E0; simp at E0), emem49, va_up_self]; rfl, Nat.zero_le _, fun i hi => absurd hi (Nat.not_lt_zero i)⟩ (P5 _ _ E1.1 (by decide)) (P5 _ _ E1.2.2 (by decide))
  have PA := stO A1 (ob := []) ⟨by rw [A4 q60 (fun e => by rw [← e, s60] at A0; simp at A0), emem60, va_up_self]; rfl, Nat.zero_le _, fun i hi => absurd hi (Nat.not_lt_zero i)⟩ (P6 _ _ A1.1 (by decide)) (P6 _ _ A1.2.2 (by decide))
  have xf : ∀ j, gur rf75 x 6 (some q71) x j = if j = 6 then some q71 else if j = 5 then some q60 else if j = 4 then some q49 else if j = 3 then some q38 else if j = 2 then some q27 else if j = 1 then some q16 else if j = 0 then some q5 else rf x j := by
    intro j
    rw [y7, y6, y5, y4, y3, y2, y1]
  refine ⟨(fun k => ([q5, b0, b1, b2, q16, c0, q27, d, d0, d1, d2, q38, e0, e1, e2, q49, f0, q60, g0, q71] : List Nat).getD k 0), ⟨fun _ => 0, fun _ => 0, fun _ => 0, fun _ => 0, fun _ => 0, fun _ => 0, ⟨x7, xf 0, xf 1, xf 2, xf 3, xf 4, xf 5, xf 6⟩, PL, PR, ⟨⟨ut.1.trans C4.1, (congrFun ut.2.1 0).trans C4.2⟩, PN⟩, ⟨PM.1, PM.2, (congrFun um.2.2 4).trans M5, by decide⟩, PE, PA, ⟨u75, congrFun m71 0, congrFun m71 1, congrFun m71 2, by decide, by decide, Or.inl rfl⟩, ⟨fun i hi => absurd rfl hi, fun i hi => absurd rfl hi, d15, d16⟩, ⟨fun b w => by rw [al b (gsh_ne (hg b w)) (gx b w)]; exact hg b w, k3, fun i hi => absurd rfl hi, fun i hi => absurd rfl hi, k8, k9, k12, k13, k14⟩⟩, fun b w => T0 b (gsh_ne (hg b w)) (gx b w)⟩
