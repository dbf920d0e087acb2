/-! Libraries: adding, dropping, copying -/
section LC
variable {sh sh1 sh2 : Nat → Nat × Nat} {rf rf1 rf2 : Nat → Nat → Option Nat} {mem mem1 mem2 : Nat → Nat → Int} {a a0 a1 a2 : Nat} {la l0 l1 l2 : Nat → Nat} {rp : List Int} {ms ns os : List (Option MemT)}
/-- the libraries behind a change: rows are old ones or new ones -/
def LbN (sh : Nat → Nat × Nat) (rf : Nat → Nat → Option Nat) (mem : Nat → Nat → Int) (a a0 a1 a2 : Nat) (la l0 l1 l2 : Nat → Nat) (rp : List Int) (ms : List (Option MemT)) (sh1 : Nat → Nat × Nat) (rf1 : Nat → Nat → Option Nat) (mem1 : Nat → Nat → Int) (ns : List (Option MemT)) (ka k0 k1 k2 : Nat → Nat) : Prop :=
  LbO sh1 rf1 a a0 a1 a2 ∧ LbV sh1 rf1 mem1 a a0 a1 a2 ka k0 k1 k2 rp ns ∧ LbF sh rf mem sh1 rf1 mem1 a2 la l0 l1 l2 ms ∧ ∀ i, ns.getD i none ≠ none → (∃ j, ms.getD j none ≠ none ∧ ka i = la j ∧ k0 i = l0 j ∧ k1 i = l1 j ∧ k2 i = l2 j) ∨ ((sh (ka i)).1 = 0 ∧ (sh (k0 i)).1 = 0 ∧ (sh (k1 i)).1 = 0 ∧ (sh (k2 i)).1 = 0)
theorem LbN.rf0 (hO : LbO sh rf a a0 a1 a2) (h : LbV sh rf mem a a0 a1 a2 la l0 l1 l2 rp ms) : LbN sh rf mem a a0 a1 a2 la l0 l1 l2 rp ms sh rf mem ms la l0 l1 l2 := ⟨hO, h, LbF.rf, fun i hi => Or.inl ⟨i, hi, rfl, rfl, rfl, rfl⟩⟩
theorem LbN.trans {ka k0 k1 k2 ja j0 j1 j2 : Nat → Nat} (h : LbN sh rf mem a a0 a1 a2 la l0 l1 l2 rp ms sh1 rf1 mem1 ns ka k0 k1 k2) (g : LbN sh1 rf1 mem1 a a0 a1 a2 ka k0 k1 k2 rp ns sh2 rf2 mem2 os ja j0 j1 j2) : LbN sh rf mem a a0 a1 a2 la l0 l1 l2 rp ms sh2 rf2 mem2 os ja j0 j1 j2 := by
  obtain ⟨h1, h2, ⟨h3, h4⟩, h5⟩ := h
  obtain ⟨g1, g2, ⟨g3, g4⟩, g5⟩ := g
  have al : ∀ b, (sh b).1 ≠ 0 → (sh1 b).1 ≠ 0 := fun b hb => by rw [h3 b hb]; exact hb
  have fr : ∀ b, (sh1 b).1 = 0 → (sh b).1 = 0 := fun b hb => Classical.byContradiction fun q => al b q hb
  refine ⟨g1, g2, ⟨fun b hb => by rw [g3 b (al b hb), h3 b hb], fun b hb c1 c2 c3 c4 c5 => ?_⟩, fun i hi => ?_⟩
  · obtain ⟨p1, p2⟩ := h4 b hb c1 c2 c3 c4 c5
    have e := h3 b hb
    obtain ⟨q1, q2⟩ := g4 b (al b hb) (by rw [e]; exact c1) (by rw [e]; exact c2) (by rw [e]; exact c3) c4 (fun i hi => by
      rcases h5 i hi with ⟨j, w0, w1, w2, w3, w4⟩ | ⟨w1, w2, w3, w4⟩
      · rw [w1, w2, w3, w4]; exact c5 j w0
      · exact ⟨fun q => hb (by rw [q]; exact w1), fun q => hb (by rw [q]; exact w2), fun q => hb (by rw [q]; exact w3), fun q => hb (by rw [q]; exact w4)⟩)
    exact ⟨q1.trans p1, q2.trans p2⟩
  · rcases g5 i hi with ⟨j, w0, w1, w2, w3, w4⟩ | ⟨w1, w2, w3, w4⟩
    · rw [w1, w2, w3, w4]; exact h5 j w0
    · exact Or.inr ⟨fr _ w1, fr _ w2, fr _ w3, fr _ w4⟩
theorem LbN.set {k : Nat} {x : MemT} {ys : Lns} (hO : LbO sh rf a a0 a1 a2) (h : LbV sh rf mem a a0 a1 a2 la l0 l1 l2 rp ms) (hx : ms.getD k none = some x) (hi : LnI mem1 (la k) (l0 k) (l1 k) (l2 k)) (hv : LnV mem1 (la k) (l0 k) (l1 k) (l2 k) ys) (hf : Fr4 mem mem1 (la k) (l0 k) (l1 k) (l2 k)) : LbN sh rf mem a a0 a1 a2 la l0 l1 l2 rp ms sh rf mem1 (ms.set k (some (x.1, x.2.1, ys))) la l0 l1 l2 := by
  obtain ⟨q1, q2⟩ := LbV_lines hO h hx hi hv hf
  refine ⟨hO, q1, q2, fun i hi => Or.inl ⟨i, ?_, rfl, rfl, rfl, rfl⟩⟩
  have hk : k < ms.length := getD_ltM (by rw [hx]; simp)
  rw [getD_setM hk] at hi
  by_cases e : i = k
  · rw [e, hx]; simp
  · rw [if_neg e] at hi; exact hi
/-- the lines of a member -/
def lnsAt (ms : List (Option MemT)) (k : Int) : Lns := match memAt ms k with
  | some x => x.2.2
  | none => []
abbrev rpl (rp : List Int) (l : Int) : Prop := 1 ≤ l ∧ l ≤ rp.length ∧ rp.getD (l - 1).toNat 0 = 1
/-- one member copied -/
def cp1 (rp : List Int) (ms : List (Option MemT)) (f n t m : Int) : List (Option MemT) :=
  if memS ms f n = 0 ∨ memS ms f n = memS ms t m ∨ (memS ms t m ≠ 0 ∧ ¬ rpl rp t) then ms
  else if memS ms t m = 0 then ms ++ [some (t, m, lnsAt ms (memS ms f n))] else ms.set (memS ms t m - 1) (some (t, m, lnsAt ms (memS ms f n)))
theorem cp1_no {f n t m : Int} (h : memS ms f n = 0 ∨ memS ms f n = memS ms t m ∨ (memS ms t m ≠ 0 ∧ ¬ rpl rp t)) : cp1 rp ms f n t m = ms := by rw [cp1, if_pos h]
theorem cp1_new {f n t m : Int} (h1 : memS ms f n ≠ 0) (h2 : memS ms t m = 0) : cp1 rp ms f n t m = ms ++ [some (t, m, lnsAt ms (memS ms f n))] := by
  rw [cp1, if_neg (by omega), if_pos h2]
theorem cp1_set {f n t m : Int} (h1 : memS ms f n ≠ 0) (h2 : memS ms f n ≠ memS ms t m) (h3 : memS ms t m ≠ 0) (h4 : rpl rp t) : cp1 rp ms f n t m = ms.set (memS ms t m - 1) (some (t, m, lnsAt ms (memS ms f n))) := by
  rw [cp1, if_neg, if_neg h3]
  rintro (h | h | ⟨-, h⟩)
  · exact h1 h
  · exact h2 h
  · exact h h4
theorem cp1_len (f n t m : Int) : ms.length ≤ (cp1 rp ms f n t m).length := by
  rw [cp1]
  split
  · exact Nat.le_refl _
  · split <;> simp
def cpN (rp : List Int) (f t w : Int) : Nat → Int → List (Option MemT) → List (Option MemT)
  | 0, _, ms => ms
  | k + 1, n, ms => cpN rp f t w k (n + 1) (cp1 rp ms f n t (if w = -1 then n else w))
theorem cpN_len (f t w : Int) : ∀ (k : Nat) (n : Int) (ms : List (Option MemT)), ms.length ≤ (cpN rp f t w k n ms).length
  | 0, _, _ => Nat.le_refl _
  | k + 1, n, ms => Nat.le_trans (cp1_len f n t _) (cpN_len f t w k (n + 1) _)
def drp (ms : List (Option MemT)) (l n : Int) : List (Option MemT) := if memS ms l n = 0 then ms else ms.set (memS ms l n - 1) none
def mvS (rp : List Int) (ms : List (Option MemT)) (f t n w : Int) : List (Option MemT) := if f = t ∧ n = (if w = -1 then n else w) then ms else drp (cp1 rp ms f n t (if w = -1 then n else w)) f n
theorem drp_len (l n : Int) : (drp ms l n).length = ms.length := by
  unfold drp
  split
  · rfl
  · rw [List.length_set]
theorem lnsAt_eq {k : Int} {x : MemT} (h : memAt ms k = some x) : lnsAt ms k = x.2.2 := by rw [lnsAt, h]
theorem memAt_app {y : Option MemT} {k : Int} {x : MemT} (h : memAt ms k = some x) : memAt (ms ++ [y]) k = some x := by
  obtain ⟨h1, h2, h3⟩ := memAt_some h
  rw [memAt, if_pos h1, getD_appM, if_neg (by omega)]
  exact h3
end LC
set_option maxHeartbeats 4000000 in
set_option maxRecDepth 100000 in
theorem kX3_addMember (lc : Launch) (D : va_G) (ac : Nat → ClassId) {sh : Nat → Nat × Nat} {rf : Nat → Nat → Option Nat} {mem : Nat → Nat → Int} (a a0 a1 a2 : Nat) (la l0 l1 l2 : Nat → Nat) (rp : List Int) (ms : List (Option MemT)) (l n : Int) (hO : LbO sh rf a a0 a1 a2) (hv : LbV sh rf mem a a0 a1 a2 la l0 l1 l2 rp ms) (h_p : inR l) (h_q : inR n) (hz : memS ms l n = 0) : gMet lc D ac mX3_addMember 2 [.ref a, .int (iI l), .int (iI n)] 4 364 sh rf mem (pA (fun r sh1 rf1 mem1 => (¬ (ms.length < 80 ∧ 1 ≤ l ∧ l ≤ rp.length ∧ 0 ≤ n ∧ n < 100) ∧ r = -1 ∧ sh1 = sh ∧ rf1 = rf ∧ mem1 = mem) ∨ ((ms.length < 80 ∧ 1 ≤ l ∧ l ≤ rp.length ∧ 0 ≤ n ∧ n < 100) ∧ r = ms.length + 1 ∧ ∃ s s0 s1 s2, LbN sh rf mem a a0 a1 a2 la l0 l1 l2 rp ms sh1 rf1 mem1 (ms ++ [some (l, n, [])]) (va_up la ms.length s) (va_up l0 ms.length s0) (va_up l1 ms.length s1) (va_up l2 ms.length s2)))) := by
  refine gMet.mk (by decide) (by intro v hv; simp at hv; (try rcases hv with rfl | rfl | rfl) <;> rfl) (Nat.le_of_ble_eq_true rfl) (fun X hC hI => ?_)
  show gG X sh rf mem 0 0 0 [some (.ref a), some (.int (iI l)), some (.int (iI n))] []
  have hO9 := hO
  have hv9 := hv
  obtain ⟨n1, n2, n3, n4, n5, n6⟩ := hO.ne
  obtain ⟨ho, hr0, hr1, hr2, hs0, hs1, hs2⟩ := hO
  obtain ⟨v1, v2, v3, v4, v5, v6, v7, v8, v9⟩ := hv
  have i_p := h_p
  obtain ⟨p1, p2⟩ := h_p
  have i_q := h_q
  obtain ⟨q1, q2⟩ := h_q
  refine g_aload_n hC dX3_addMember_0 rfl ?_
  refine g_getI hC fdX3_29 (by assumption) dX3_addMember_1 ?_
  refine g_bipush hC dX3_addMember_4 (by decide +kernel) ?_
  refine g_icmp_ge (tgt := 24) hC dX3_addMember_6 (by decide) ⟨by omega, by omega⟩ ⟨by omega, by omega⟩ (fun h6 => ?_) (fun h6 => ?_)
  · refine g_iconst hC dX3_addMember_24 ?_
    refine g_iret hC hI rfl dX3_addMember_25 (Nat.le_of_ble_eq_true rfl) (Nat.le_of_ble_eq_true rfl) ⟨_, rfl, ?_⟩
    exact Or.inl ⟨by omega, rfl, rfl, rfl, rfl⟩
  · refine g_aload_n hC dX3_addMember_9 rfl ?_
    refine g_iload_n hC dX3_addMember_10 rfl ?_
    refine g_VP hC (kX3_hasLibrary (gl X) (gD X) (gac X) a a0 a1 a2 la l0 l1 l2 rp ms l hO9 hv9 i_p) cvX3_hasLibrary lkX3_32 (by assumption) rfl rfl (Nat.le_of_ble_eq_true rfl) (hI.fit (Nat.le_of_ble_eq_true rfl) (Nat.le_of_ble_eq_true rfl) (Nat.le_of_ble_eq_true rfl)) dX3_addMember_11 (fun x11 hx11 => ?_)
    refine g_if_eq (tgt := 24) hC dX3_addMember_14 (by decide) ⟨by omega, by omega⟩ (fun h14 => ?_) (fun h14 => ?_)
    · refine g_iconst hC dX3_addMember_24 ?_
      refine g_iret hC hI rfl dX3_addMember_25 (Nat.le_of_ble_eq_true rfl) (Nat.le_of_ble_eq_true rfl) ⟨_, rfl, ?_⟩
      exact Or.inl ⟨by omega, rfl, rfl, rfl, rfl⟩
    · refine g_iload_n hC dX3_addMember_17 rfl ?_
      refine g_SPn hC (kX9_isName (gl X) (gD X) (gac X) n i_q) csX9_isName lkX3_36 rfl rfl (Nat.le_of_ble_eq_true rfl) (hI.fit (Nat.le_of_ble_eq_true rfl) (Nat.le_of_ble_eq_true rfl) (Nat.le_of_ble_eq_true rfl)) dX3_addMember_18 (fun x18 hx18 => ?_)
      refine g_if_ne (tgt := 26) hC dX3_addMember_21 (by decide) ⟨by omega, by omega⟩ (fun h21 => ?_) (fun h21 => ?_)
      · refine g_aload_n hC dX3_addMember_26 rfl ?_
        refine g_getR hC fdX3_17 (by assumption) (by assumption) dX3_addMember_27 ?_
        refine g_aload_n hC dX3_addMember_30 rfl ?_
        refine g_getI hC fdX3_29 (by assumption) dX3_addMember_31 ?_
        refine g_newN hC neX3_15 (by rw [hI.rm]; exact (Nat.le_of_ble_eq_true rfl)) (by rw [hI.rm]; exact (Nat.le_of_ble_eq_true rfl)) dX3_addMember_34 (fun q34 sh34 rf34 mem34 hq34 esh34 erf34 emem34 => ?_)
        have ho34 := sh_keep esh34 hq34 ho (by decide)
        have hs34 := sh_keep esh34 hq34 hs1 (by decide)
        have ht34 := sh_keep esh34 hq34 hs2 (by decide)
        have s34 := sh_new esh34
        have z1 := sh_ne hq34 ho (by decide)
        have z2 := sh_ne hq34 hs1 (by decide)
        have z3 := sh_ne hq34 hs2 (by decide)
        refine g_dup hC dX3_addMember_37 rfl ?_
        refine g_IUn hC (kX4_init (gl X) (gD X) (gac X) q34 s34) ciX4_init lkX3_43 rfl rfl (Nat.le_of_ble_eq_true rfl) (hI.fit (Nat.le_of_ble_eq_true rfl) (Nat.le_of_ble_eq_true rfl) (Nat.le_of_ble_eq_true rfl)) dX3_addMember_38 (fun sh38 rf38 mem38 hx38 => ?_)
        obtain ⟨b0, b1, b2, f0, f1, f2, f3, f4, f5, f6, f7, f8, f9, f10⟩ := hx38
        have g0 : q34 ≠ b0 := by rintro e; rw [← e, s34] at f0; simp at f0
        have g1 : q34 ≠ b1 := by rintro e; rw [← e, s34] at f1; simp at f1
        have g2 : q34 ≠ b2 := by rintro e; rw [← e, s34] at f2; simp at f2
        have e0 : (sh b0).1 = 0 := by rw [esh34, va_up_ne _ _ g0.symm] at f0; exact f0
        have e1 : (sh b1).1 = 0 := by rw [esh34, va_up_ne _ _ g1.symm] at f1; exact f1
        have e2 : (sh b2).1 = 0 := by rw [esh34, va_up_ne _ _ g2.symm] at f2; exact f2
        have gg : ∀ b, (sh b).1 ≠ 0 → b ≠ q34 ∧ b ≠ b0 ∧ b ≠ b1 ∧ b ≠ b2 := fun b hb => ⟨fun e => hb (by rw [e]; exact hq34), fun e => hb (by rw [e]; exact e0), fun e => hb (by rw [e]; exact e1), fun e => hb (by rw [e]; exact e2)⟩
        have ha : (sh a).1 ≠ 0 := by rw [ho]; simp
        have ha1 : (sh a1).1 ≠ 0 := by rw [hs1]; simp
        have ha2 : (sh a2).1 ≠ 0 := by rw [hs2]; simp
        have G1 : ∀ b, (sh b).1 ≠ 0 → sh38 b = sh b := fun b hb => by rw [f4 b (gg b hb).2.1 (gg b hb).2.2.1 (gg b hb).2.2.2, esh34, va_up_ne _ _ (gg b hb).1]
        have G2 : ∀ b, (sh b).1 ≠ 0 → rf38 b = rf b := fun b hb => by rw [f5 b (gg b hb).1 (gg b hb).2.1 (gg b hb).2.2.1 (gg b hb).2.2.2, erf34, va_up_ne _ _ (gg b hb).1]
        have G3 : ∀ b, (sh b).1 ≠ 0 → mem38 b = mem b := fun b hb => by rw [f6 b (gg b hb).2.1 (gg b hb).2.2.1 (gg b hb).2.2.2, emem34, va_up_ne _ _ (gg b hb).1]
        have ho38 : sh38 a = (3, 0) := by rw [G1 a ha]; exact ho
        have hs38 : sh38 a1 = (15, 80) := by rw [G1 a1 ha1]; exact hs1
        have ht38 : sh38 a2 = (12, 600) := by rw [G1 a2 ha2]; exact hs2
        have s38 : sh38 q34 = (4, 0) := f3.1
        have hr38 : gur rf38 a1 (mem a 4).toNat (some q34) a 2 = some a2 := by rw [gur_a _ _ _ _ n2, G2 a ha]; exact hr2
        have hc38 : mem38 a 4 = ms.length := by rw [G3 a ha]; exact v3
        refine g_aast hC hs38 (Or.inl ⟨rfl, rfl⟩) s38 (by omega) (by omega) (by decide) dX3_addMember_41 ?_
        refine g_aload_n hC dX3_addMember_42 rfl ?_
        refine g_dup hC dX3_addMember_43 rfl ?_
        refine g_getI hC fdX3_29 (by assumption) dX3_addMember_44 ?_
        refine g_iconst hC dX3_addMember_47 ?_
        refine g_iadd hC dX3_addMember_48 ?_
        refine g_putI hC fdX3_29 (by assumption) rfl rfl dX3_addMember_49 ?_
        refine g_aload_n hC dX3_addMember_52 rfl ?_
        refine g_getR hC fdX3_21 (by assumption) (by assumption) dX3_addMember_53 ?_
        refine g_iload_n hC dX3_addMember_56 rfl ?_
        refine g_iload_n hC dX3_addMember_57 rfl ?_
        refine g_SP hC (kX3_placeOf (gl X) (gD X) (gac X) l n) csX3_placeOf lkX3_39 rfl rfl (Nat.le_of_ble_eq_true rfl) (hI.fit (Nat.le_of_ble_eq_true rfl) (Nat.le_of_ble_eq_true rfl) (Nat.le_of_ble_eq_true rfl)) dX3_addMember_58 (fun x58 hx58 => ?_)
        subst hx58
        refine g_aload_n hC dX3_addMember_61 rfl ?_
        refine g_getI hC fdX3_29 (by assumption) dX3_addMember_62 ?_
        refine g_iast hC (by assumption) (by omega) (by omega) (by decide) dX3_addMember_65 ?_
        have w1 : ∀ j, gup (gup mem38 a 4 (mem38 a 4 + 1)) a2 ((l - 1) * 100 + n).toNat (gup mem38 a 4 (mem38 a 4 + 1) a 4) a j = gup mem38 a 4 (mem38 a 4 + 1) a j := fun j => gup_a _ _ _ _ n3
        refine g_aload_n hC dX3_addMember_66 rfl ?_
        refine g_getI hC fdX3_29 (by assumption) dX3_addMember_67 ?_
        refine g_iret hC hI rfl dX3_addMember_70 (Nat.le_of_ble_eq_true rfl) (Nat.le_of_ble_eq_true rfl) ⟨_, rfl, ?_⟩
        right
        have n9 := f3.ne
        have hln : 1 ≤ l ∧ l ≤ rp.length ∧ 0 ≤ n ∧ n < 100 := by omega
        have q9 : ∀ b, b ≠ a → b ≠ a2 → gup (gup mem38 a 4 (mem38 a 4 + 1)) a2 ((l - 1) * 100 + n).toNat (gup mem38 a 4 (mem38 a 4 + 1) a 4) b = mem38 b := fun b h1 h2 => by funext j; rw [gup_a _ _ _ _ h2, gup_a _ _ _ _ h1]
        have y1 : b0 ≠ a := fun e => ha (by rw [← e]; exact e0)
        have y2 : b0 ≠ a2 := fun e => ha2 (by rw [← e]; exact e0)
        have y3 : b1 ≠ a := fun e => ha (by rw [← e]; exact e1)
        have y4 : b1 ≠ a2 := fun e => ha2 (by rw [← e]; exact e1)
        have y5 : b2 ≠ a := fun e => ha (by rw [← e]; exact e2)
        have y6 : b2 ≠ a2 := fun e => ha2 (by rw [← e]; exact e2)
        have key := LbV_add (sh1 := sh38) (rf1 := gur rf38 a1 (mem a 4).toNat (some q34)) (mem1 := gup (gup mem38 a 4 (mem38 a 4 + 1)) a2 ((l - 1) * 100 + n).toNat (gup mem38 a 4 (mem38 a 4 + 1) a 4)) (s := q34) (s0 := b0) (s1 := b1) (s2 := b2) (l := l) (n := n) hO9 hv9 (by omega) hln hz hq34 e0 e1 e2 ⟨f3.1, by rw [gur_a _ _ _ _ z2.symm]; exact f3.2.1, by rw [gur_a _ _ _ _ z2.symm]; exact f3.2.2.1, by rw [gur_a _ _ _ _ z2.symm]; exact f3.2.2.2.1, f3.2.2.2.2⟩
          ⟨by rw [q9 _ z1.symm z3.symm, f6 q34 g0 g1 g2, emem34, va_up_self]; decide, by rw [q9 _ z1.symm z3.symm, f6 q34 g0 g1 g2, emem34, va_up_self]; decide, fun i => by rw [q9 _ y1 y2, f7]; decide, fun i => by rw [q9 _ y3 y4, f8]; decide, fun i => by rw [q9 _ y5 y6, f9]; decide⟩
          ⟨by rw [q9 _ z1.symm z3.symm, f6 q34 g0 g1 g2, emem34, va_up_self]; rfl, fun i hi => absurd hi (Nat.not_lt_zero i)⟩ G1 (fun b hb h1 => by funext j; rw [gur_a _ _ _ _ h1, G2 b hb]) (fun b hb h1 h2 => by rw [q9 b h1 h2, G3 b hb])
          (fun i => by
            have e9 : (mem a 4).toNat = ms.length := by omega
            rw [e9]
            by_cases q : i = ms.length
            · subst q
              rw [gur_s, if_pos rfl]
            · rw [gur_k _ _ _ _ q, if_neg q, G2 a1 ha1])
          (by rw [w1, gup_s, hc38]) (by rw [w1, gup_k _ _ _ _ (by decide), G3 a ha])
          (fun j => by
            by_cases q : j = pl l n
            · rw [if_pos q, q]
              show gup _ a2 (pl l n) _ a2 (pl l n) = _
              rw [gup_s, gup_s, hc38]
            · have q' : j ≠ ((l - 1) * 100 + n).toNat := q
              rw [if_neg q, gup_k _ _ _ _ q', gup_a _ _ _ _ n3.symm, G3 a2 ha2])
        refine ⟨by omega, by rw [w1, gup_s, hc38], q34, b0, b1, b2, key.1, key.2.1, key.2.2, fun i hi => ?_⟩
        rw [getD_appM] at hi
        by_cases q : i = ms.length
        · rw [q, va_up_self, va_up_self, va_up_self, va_up_self]
          exact Or.inr ⟨hq34, e0, e1, e2⟩
        · rw [if_neg q] at hi
          rw [va_up_ne _ _ q, va_up_ne _ _ q, va_up_ne _ _ q, va_up_ne _ _ q]
          exact Or.inl ⟨i, hi, rfl, rfl, rfl, rfl⟩
      · refine g_iconst hC dX3_addMember_24 ?_
        refine g_iret hC hI rfl dX3_addMember_25 (Nat.le_of_ble_eq_true rfl) (Nat.le_of_ble_eq_true rfl) ⟨_, rfl, ?_⟩
        exact Or.inl ⟨by omega, rfl, rfl, rfl, rfl⟩
set_option maxHeartbeats 4000000 in
set_option maxRecDepth 100000 in
theorem kX3_dropMember (lc : Launch) (D : va_G) (ac : Nat → ClassId) {sh : Nat → Nat × Nat} {rf : Nat → Nat → Option Nat} {mem : Nat → Nat → Int} (a a0 a1 a2 : Nat) (la l0 l1 l2 : Nat → Nat) (rp : List Int) (ms : List (Option MemT)) (l n : Int) (hO : LbO sh rf a a0 a1 a2) (hv : LbV sh rf mem a a0 a1 a2 la l0 l1 l2 rp ms) (h_p : inR l) (h_q : inR n) : gMet lc D ac mX3_dropMember 2 [.ref a, .int (iI l), .int (iI n)] 0 0 sh rf mem (pU (fun sh1 rf1 mem1 => sh1 = sh ∧ LbN sh rf mem a a0 a1 a2 la l0 l1 l2 rp ms sh1 rf1 mem1 (drp ms l n) la l0 l1 l2)) := by
  refine gMet.mk (by decide) (by intro v hv; simp at hv; (try rcases hv with rfl | rfl | rfl) <;> rfl) (Nat.le_of_ble_eq_true rfl) (fun X hC hI => ?_)
  show gG X sh rf mem 0 0 0 [some (.ref a), some (.int (iI l)), some (.int (iI n)), none] []
  have hO9 := hO
  have hv9 := hv
  obtain ⟨n1, n2, n3, n4, n5, n6⟩ := hO.ne
  obtain ⟨ho, hr0, hr1, hr2, hs0, hs1, hs2⟩ := hO
  obtain ⟨v1, v2, v3, v4, v5, v6, v7, v8, v9⟩ := hv
  have i_p := h_p
  obtain ⟨p1, p2⟩ := h_p
  have i_q := h_q
  obtain ⟨q1, q2⟩ := h_q
  refine g_aload_n hC dX3_dropMember_0 rfl ?_
  refine g_iload_n hC dX3_dropMember_1 rfl ?_
  refine g_iload_n hC dX3_dropMember_2 rfl ?_
  refine g_VP hC (kX3_numberOf (gl X) (gD X) (gac X) a a0 a1 a2 la l0 l1 l2 rp ms l n hO9 hv9 i_p i_q) cvX3_numberOf lkX3_69 (by assumption) rfl rfl (Nat.le_of_ble_eq_true rfl) (hI.fit (Nat.le_of_ble_eq_true rfl) (Nat.le_of_ble_eq_true rfl) (Nat.le_of_ble_eq_true rfl)) dX3_dropMember_3 (fun x3 hx3 => ?_)
  subst hx3
  have q1 := memS_le l n ms
  refine g_istore_n hC 3 rfl dX3_dropMember_6 (Nat.le_of_ble_eq_true rfl) ?_
  dsimp only [List.set]
  refine g_iload_n hC dX3_dropMember_7 rfl ?_
  refine g_iconst hC dX3_dropMember_8 ?_
  refine g_icmp_lt (tgt := 40) hC dX3_dropMember_9 (by decide) ⟨by omega, by omega⟩ ⟨by omega, by omega⟩ (fun h9 => ?_) (fun h9 => ?_)
  · refine g_vret hC hI rfl dX3_dropMember_40 (Nat.le_of_ble_eq_true rfl) (Nat.le_of_ble_eq_true rfl) ⟨rfl, ?_⟩
    first
    | (have e : drp ms l n = ms := by rw [drp, if_pos (by omega)]
       rw [e]
       exact ⟨rfl, LbN.rf0 hO9 hv9⟩)
    | (obtain ⟨x, x1, x2, x3⟩ := memS_is z9
       obtain ⟨k1, k2, k3⟩ := LbV_dropm hO9 hv9 x1
       have e : drp ms l n = ms.set (memS ms l n - 1) none := by rw [drp, if_neg z9]
       have e5 : ((memS ms l n : Int) - 1).toNat = memS ms l n - 1 := by omega
       rw [x2, x3] at k2 k3
       rw [e, e5]
       refine ⟨rfl, k1, k2, k3, fun i hi => Or.inl ⟨i, ?_, rfl, rfl, rfl, rfl⟩⟩
       rw [getD_setM (getD_ltM (by rw [x1]; simp))] at hi
       by_cases e : i = memS ms l n - 1
       · rw [if_pos e] at hi; exact absurd rfl hi
       · rw [if_neg e] at hi; exact hi)
  · refine g_iload_n hC dX3_dropMember_12 rfl ?_
    refine g_aload_n hC dX3_dropMember_13 rfl ?_
    refine g_getI hC fdX3_29 (by assumption) dX3_dropMember_14 ?_
    refine g_icmp_gt (tgt := 40) hC dX3_dropMember_17 (by decide) ⟨by omega, by omega⟩ ⟨by omega, by omega⟩ (fun h17 => ?_) (fun h17 => ?_)
    · refine g_vret hC hI rfl dX3_dropMember_40 (Nat.le_of_ble_eq_true rfl) (Nat.le_of_ble_eq_true rfl) ⟨rfl, ?_⟩
      first
      | (have e : drp ms l n = ms := by rw [drp, if_pos (by omega)]
         rw [e]
         exact ⟨rfl, LbN.rf0 hO9 hv9⟩)
      | (obtain ⟨x, x1, x2, x3⟩ := memS_is z9
         obtain ⟨k1, k2, k3⟩ := LbV_dropm hO9 hv9 x1
         have e : drp ms l n = ms.set (memS ms l n - 1) none := by rw [drp, if_neg z9]
         have e5 : ((memS ms l n : Int) - 1).toNat = memS ms l n - 1 := by omega
         rw [x2, x3] at k2 k3
         rw [e, e5]
         refine ⟨rfl, k1, k2, k3, fun i hi => Or.inl ⟨i, ?_, rfl, rfl, rfl, rfl⟩⟩
         rw [getD_setM (getD_ltM (by rw [x1]; simp))] at hi
         by_cases e : i = memS ms l n - 1
         · rw [if_pos e] at hi; exact absurd rfl hi
         · rw [if_neg e] at hi; exact hi)
    · refine g_aload_n hC dX3_dropMember_20 rfl ?_
      refine g_getR hC fdX3_17 (by assumption) (by assumption) dX3_dropMember_21 ?_
      refine g_iload_n hC dX3_dropMember_24 rfl ?_
      refine g_iconst hC dX3_dropMember_25 ?_
      refine g_isub hC dX3_dropMember_26 ?_
      refine g_null hC dX3_dropMember_27 ?_
      have z9 : memS ms l n ≠ 0 := by omega
      have q2 := memS_in hv9 z9
      have hr29 : gur rf a1 ((memS ms l n : Int) - 1).toNat none a 2 = some a2 := by rw [gur_a _ _ _ _ n2]; exact hr2
      refine g_aastN hC hs1 (Or.inl rfl) (by omega) (by omega) (by decide) dX3_dropMember_28 ?_
      refine g_aload_n hC dX3_dropMember_29 rfl ?_
      refine g_getR hC fdX3_21 (by assumption) (by assumption) dX3_dropMember_30 ?_
      refine g_iload_n hC dX3_dropMember_33 rfl ?_
      refine g_iload_n hC dX3_dropMember_34 rfl ?_
      refine g_SP hC (kX3_placeOf (gl X) (gD X) (gac X) l n) csX3_placeOf lkX3_39 rfl rfl (Nat.le_of_ble_eq_true rfl) (hI.fit (Nat.le_of_ble_eq_true rfl) (Nat.le_of_ble_eq_true rfl) (Nat.le_of_ble_eq_true rfl)) dX3_dropMember_35 (fun x35 hx35 => ?_)
      subst hx35
      refine g_iconst hC dX3_dropMember_38 ?_
      refine g_iast hC (by assumption) (by omega) (by omega) (by decide) dX3_dropMember_39 ?_
      refine g_vret hC hI rfl dX3_dropMember_40 (Nat.le_of_ble_eq_true rfl) (Nat.le_of_ble_eq_true rfl) ⟨rfl, ?_⟩
      first
      | (have e : drp ms l n = ms := by rw [drp, if_pos (by omega)]
         rw [e]
         exact ⟨rfl, LbN.rf0 hO9 hv9⟩)
      | (obtain ⟨x, x1, x2, x3⟩ := memS_is z9
         obtain ⟨k1, k2, k3⟩ := LbV_dropm hO9 hv9 x1
         have e : drp ms l n = ms.set (memS ms l n - 1) none := by rw [drp, if_neg z9]
         have e5 : ((memS ms l n : Int) - 1).toNat = memS ms l n - 1 := by omega
         rw [x2, x3] at k2 k3
         rw [e, e5]
         refine ⟨rfl, k1, k2, k3, fun i hi => Or.inl ⟨i, ?_, rfl, rfl, rfl, rfl⟩⟩
         rw [getD_setM (getD_ltM (by rw [x1]; simp))] at hi
         by_cases e : i = memS ms l n - 1
         · rw [if_pos e] at hi; exact absurd rfl hi
         · rw [if_neg e] at hi; exact hi)
