/-! Lines: opening, removing, putting, taking lines -/
section SHF
variable {mem : Nat → Nat → Int} {a0 a1 a2 f t n : Nat}
theorem shf_o {b : Nat} (h0 : b ≠ a0) (h1 : b ≠ a1) (h2 : b ≠ a2) : shf mem a0 a1 a2 f t n b = mem b := by
  funext j
  simp [shf, gcp, h0, h1, h2]
theorem shf_0 (h1 : a0 ≠ a1) (h2 : a0 ≠ a2) (j : Nat) : shf mem a0 a1 a2 f t n a0 j = if t ≤ j ∧ j < t + n then mem a0 (f + (j - t)) else mem a0 j := by
  simp [shf, gcp, h1, h2]
theorem shf_1 (h1 : a1 ≠ a0) (h2 : a1 ≠ a2) (j : Nat) : shf mem a0 a1 a2 f t n a1 j = if t ≤ j ∧ j < t + n then mem a1 (f + (j - t)) else mem a1 j := by
  simp [shf, gcp, h1, h2]
theorem shf_2 (h1 : a2 ≠ a0) (h2 : a2 ≠ a1) (j : Nat) : shf mem a0 a1 a2 f t n a2 j = if 10 * t ≤ j ∧ j < 10 * t + 10 * n then mem a2 (10 * f + (j - 10 * t)) else mem a2 j := by
  simp [shf, gcp, h1, h2]
end SHF
theorem LnV_ins {sh : Nat → Nat × Nat} {rf : Nat → Nat → Option Nat} {mem mem1 : Nat → Nat → Int} {a a0 a1 a2 i : Nat} {n v : Int} {xs : Lns} (hO : LnO sh rf a a0 a1 a2) (hi : LnI mem a a0 a1 a2) (hv : LnV mem a a0 a1 a2 xs) (hn : 0 ≤ n ∧ n ≤ 9999) (h1 : i ≤ xs.length) (h2 : xs.length < 30) (hv0 : v = xs.length + 1)
    (e1 : mem1 = gup (gup (gup (shf mem a0 a1 a2 i (i + 1) (xs.length - i)) a0 i n) a1 i 0) a 3 v) : LnI mem1 a a0 a1 a2 ∧ LnV mem1 a a0 a1 a2 (xs.insertIdx i (n, [])) ∧ Fr4 mem mem1 a a0 a1 a2 := by
  obtain ⟨n1, n2, n3, n4, n5, n6⟩ := hO.ne
  obtain ⟨i1, i2, i3, i4, i5⟩ := hi
  obtain ⟨v1, v2⟩ := hv
  have x1 := n1.symm; have x2 := n2.symm; have x3 := n3.symm; have x4 := n4.symm; have x5 := n5.symm; have x6 := n6.symm
  have w0 : ∀ j, mem1 a0 j = if j = i then n else if i + 1 ≤ j ∧ j < i + 1 + (xs.length - i) then mem a0 (i + (j - (i + 1))) else mem a0 j := fun j => by
    subst e1
    rw [gup_a _ _ _ _ x1, gup_a _ _ _ _ n4]
    by_cases hj : j = i
    · subst hj
      rw [gup_s, if_pos rfl]
    · rw [gup_k _ _ _ _ hj, shf_0 n4 n5, if_neg hj]
  have w1 : ∀ j, mem1 a1 j = if j = i then 0 else if i + 1 ≤ j ∧ j < i + 1 + (xs.length - i) then mem a1 (i + (j - (i + 1))) else mem a1 j := fun j => by
    subst e1
    rw [gup_a _ _ _ _ x2]
    by_cases hj : j = i
    · subst hj
      rw [gup_s, if_pos rfl]
    · rw [gup_k _ _ _ _ hj, gup_a _ _ _ _ x4, shf_1 x4 n6, if_neg hj]
  have w2 : ∀ j, mem1 a2 j = if 10 * (i + 1) ≤ j ∧ j < 10 * (i + 1) + 10 * (xs.length - i) then mem a2 (10 * i + (j - 10 * (i + 1))) else mem a2 j := fun j => by
    subst e1
    rw [gup_a _ _ _ _ x3, gup_a _ _ _ _ x6, gup_a _ _ _ _ x5, shf_2 x5 x6]
  have w3 : mem1 a 3 = xs.length + 1 := by
    subst e1
    rw [gup_s, hv0]
  have hlen : (xs.insertIdx i (n, [])).length = xs.length + 1 := List.length_insertIdx_of_le_length h1 _
  refine ⟨⟨?_, ?_, ?_, ?_, ?_⟩, ⟨?_, ?_⟩, ?_⟩
  · rw [w3]; omega
  · rw [w3]; omega
  · intro j
    rw [w0]
    split
    · exact hn
    · split
      · exact i3 _
      · exact i3 _
  · intro j
    rw [w1]
    split
    · omega
    · split
      · exact i4 _
      · exact i4 _
  · intro j
    rw [w2]
    split
    · exact i5 _
    · exact i5 _
  · rw [w3, hlen]; rfl
  · intro j hj
    rw [hlen] at hj
    rw [nu_ins _ h1, sg_ins _ h1, w0, w1]
    by_cases c1 : j < i
    · rw [if_pos c1, if_pos c1, if_neg (by omega), if_neg (by omega), if_neg (by omega), if_neg (by omega)]
      obtain ⟨z1, z2, z3⟩ := v2 j (by omega)
      refine ⟨z1, z2, fun k hk => ?_⟩
      have := i4 j
      rw [w2, if_neg (by omega)]
      exact z3 k hk
    · by_cases c2 : j = i
      · subst c2
        rw [if_neg c1, if_neg c1, if_pos rfl, if_pos rfl, if_pos rfl, if_pos rfl]
        exact ⟨rfl, rfl, fun k hk => by simp at hk⟩
      · rw [if_neg c1, if_neg c1, if_neg c2, if_neg c2, if_neg c2, if_neg c2, if_pos (by omega), if_pos (by omega)]
        obtain ⟨z1, z2, z3⟩ := v2 (j - 1) (by omega)
        rw [show i + (j - (i + 1)) = j - 1 by omega]
        refine ⟨z1, z2, fun k hk => ?_⟩
        have := i4 (j - 1)
        rw [w2, if_pos (by omega), show 10 * i + (10 * j + k - 10 * (i + 1)) = 10 * (j - 1) + k by omega]
        exact z3 k hk
  · intro b b1 b2 b3 b4
    subst e1
    funext j
    rw [gup_a _ _ _ _ b1, gup_a _ _ _ _ b3, gup_a _ _ _ _ b2, shf_o b2 b3 b4]
theorem LnV_del {sh : Nat → Nat × Nat} {rf : Nat → Nat → Option Nat} {mem mem1 : Nat → Nat → Int} {a a0 a1 a2 i : Nat} {v : Int} {xs : Lns} (hO : LnO sh rf a a0 a1 a2) (hi : LnI mem a a0 a1 a2) (hv : LnV mem a a0 a1 a2 xs) (h1 : i < xs.length) (hv0 : v = xs.length - 1)
    (e1 : mem1 = gup (shf mem a0 a1 a2 (i + 1) i (xs.length - (i + 1))) a 3 v) : LnI mem1 a a0 a1 a2 ∧ LnV mem1 a a0 a1 a2 (xs.eraseIdx i) ∧ Fr4 mem mem1 a a0 a1 a2 := by
  obtain ⟨n1, n2, n3, n4, n5, n6⟩ := hO.ne
  obtain ⟨i1, i2, i3, i4, i5⟩ := hi
  obtain ⟨v1, v2⟩ := hv
  have x1 := n1.symm; have x2 := n2.symm; have x3 := n3.symm; have x4 := n4.symm; have x5 := n5.symm; have x6 := n6.symm
  have w0 : ∀ j, mem1 a0 j = if i ≤ j ∧ j < i + (xs.length - (i + 1)) then mem a0 (i + 1 + (j - i)) else mem a0 j := fun j => by
    subst e1
    rw [gup_a _ _ _ _ x1, shf_0 n4 n5]
  have w1 : ∀ j, mem1 a1 j = if i ≤ j ∧ j < i + (xs.length - (i + 1)) then mem a1 (i + 1 + (j - i)) else mem a1 j := fun j => by
    subst e1
    rw [gup_a _ _ _ _ x2, shf_1 x4 n6]
  have w2 : ∀ j, mem1 a2 j = if 10 * i ≤ j ∧ j < 10 * i + 10 * (xs.length - (i + 1)) then mem a2 (10 * (i + 1) + (j - 10 * i)) else mem a2 j := fun j => by
    subst e1
    rw [gup_a _ _ _ _ x3, shf_2 x5 x6]
  have w3 : mem1 a 3 = xs.length - 1 := by
    subst e1
    rw [gup_s, hv0]
  have hlen : (xs.eraseIdx i).length = xs.length - 1 := List.length_eraseIdx_of_lt h1
  refine ⟨⟨?_, ?_, ?_, ?_, ?_⟩, ⟨?_, ?_⟩, ?_⟩
  · rw [w3]; omega
  · rw [w3]; omega
  · intro j
    rw [w0]
    split <;> exact i3 _
  · intro j
    rw [w1]
    split <;> exact i4 _
  · intro j
    rw [w2]
    split <;> exact i5 _
  · rw [w3, hlen]; omega
  · intro j hj
    rw [hlen] at hj
    rw [nu_del, sg_del, w0, w1]
    by_cases c1 : j < i
    · rw [if_pos c1, if_pos c1, if_neg (by omega), if_neg (by omega)]
      obtain ⟨z1, z2, z3⟩ := v2 j (by omega)
      refine ⟨z1, z2, fun k hk => ?_⟩
      have := i4 j
      rw [w2, if_neg (by omega)]
      exact z3 k hk
    · rw [if_neg c1, if_neg c1, if_pos (by omega), if_pos (by omega), show i + 1 + (j - i) = j + 1 by omega]
      obtain ⟨z1, z2, z3⟩ := v2 (j + 1) (by omega)
      refine ⟨z1, z2, fun k hk => ?_⟩
      have := i4 (j + 1)
      rw [w2, if_pos (by omega), show 10 * (i + 1) + (10 * j + k - 10 * i) = 10 * (j + 1) + k by omega]
      exact z3 k hk
  · intro b b1 b2 b3 b4
    subst e1
    funext j
    rw [gup_a _ _ _ _ b1, shf_o b2 b3 b4]
set_option maxHeartbeats 4000000 in
set_option maxRecDepth 100000 in
theorem kX4_openAt (l : Launch) (D : va_G) (ac : Nat → ClassId) {sh : Nat → Nat × Nat} {rf : Nat → Nat → Option Nat} {mem : Nat → Nat → Int} (a a0 a1 a2 : Nat) (xs : Lns) (i n : Int) (hO : LnO sh rf a a0 a1 a2) (hi : LnI mem a a0 a1 a2) (hv : LnV mem a a0 a1 a2 xs) (hp : inR i) (hn : 0 ≤ n ∧ n ≤ 9999) : gMet l D ac mX4_openAt 2 [.ref a, .int (iI i), .int (iI n)] 0 0 sh rf mem (pM sh rf (fun r mem1 => (r = 1 ∧ xs.length < 30 ∧ 0 ≤ i ∧ i ≤ xs.length ∧ LnI mem1 a a0 a1 a2 ∧ LnV mem1 a a0 a1 a2 (xs.insertIdx i.toNat (n, [])) ∧ Fr4 mem mem1 a a0 a1 a2) ∨ (r = 0 ∧ ¬ (xs.length < 30 ∧ 0 ≤ i ∧ i ≤ xs.length) ∧ mem1 = mem))) := by
  refine gMet.mk (by decide) (by intro v hv; simp at hv; (try rcases hv with rfl | rfl | rfl) <;> rfl) (Nat.le_of_ble_eq_true rfl) (fun X hC hI => ?_)
  show gG X sh rf mem 0 0 0 [some (.ref a), some (.int (iI i)), some (.int (iI n))] []
  have hO9 := hO
  have hi9 := hi
  have hv9 := hv
  obtain ⟨ho, hr0, hr1, hr2, hs0, hs1, hs2, hne⟩ := hO
  obtain ⟨hn1, hn2, hin, hil, hib⟩ := hi
  obtain ⟨hv1, hv2⟩ := hv
  obtain ⟨n1, n2, n3, n4, n5, n6⟩ := hO9.ne
  have x1 := n1.symm
  have x2 := n2.symm
  have x3 := n3.symm
  have x4 := n4.symm
  have x5 := n5.symm
  have x6 := n6.symm
  obtain ⟨hp1, hp2⟩ := hp
  refine g_aload_n hC dX4_openAt_0 rfl ?_
  refine g_getI hC fdX4_22 (by assumption) dX4_openAt_1 ?_
  refine g_bipush hC dX4_openAt_4 (by decide +kernel) ?_
  refine g_icmp_ge (tgt := 21) hC dX4_openAt_6 (by decide) ⟨by omega, by omega⟩ ⟨by omega, by omega⟩ (fun h6 => ?_) (fun h6 => ?_)
  · refine g_iconst hC dX4_openAt_21 ?_
    refine g_zret hC hI rfl (by decide +kernel) dX4_openAt_22 (Nat.le_of_ble_eq_true rfl) (Nat.le_of_ble_eq_true rfl) ⟨rfl, rfl, _, rfl, ?_⟩
    exact Or.inr ⟨rfl, by omega, rfl⟩
  · refine g_iload_n hC dX4_openAt_9 rfl ?_
    refine g_if_lt (tgt := 21) hC dX4_openAt_10 (by decide) ⟨by omega, by omega⟩ (fun h10 => ?_) (fun h10 => ?_)
    · refine g_iconst hC dX4_openAt_21 ?_
      refine g_zret hC hI rfl (by decide +kernel) dX4_openAt_22 (Nat.le_of_ble_eq_true rfl) (Nat.le_of_ble_eq_true rfl) ⟨rfl, rfl, _, rfl, ?_⟩
      exact Or.inr ⟨rfl, by omega, rfl⟩
    · refine g_iload_n hC dX4_openAt_13 rfl ?_
      refine g_aload_n hC dX4_openAt_14 rfl ?_
      refine g_getI hC fdX4_22 (by assumption) dX4_openAt_15 ?_
      refine g_icmp_le (tgt := 23) hC dX4_openAt_18 (by decide) ⟨by omega, by omega⟩ ⟨by omega, by omega⟩ (fun h18 => ?_) (fun h18 => ?_)
      · refine g_aload_n hC dX4_openAt_23 rfl ?_
        refine g_iload_n hC dX4_openAt_24 rfl ?_
        refine g_iload_n hC dX4_openAt_25 rfl ?_
        refine g_iconst hC dX4_openAt_26 ?_
        refine g_iadd hC dX4_openAt_27 ?_
        refine g_VV hC (kX4_shift (gl X) (gD X) (gac X) a a0 a1 a2 i (i + 1) hO9 hi9 ⟨by omega, by omega, by omega, by omega⟩ (by omega)) cvX4_shift lkX4_54 (by assumption) rfl rfl (Nat.le_of_ble_eq_true rfl) (hI.fit (Nat.le_of_ble_eq_true rfl) (Nat.le_of_ble_eq_true rfl) (Nat.le_of_ble_eq_true rfl)) dX4_openAt_28 (fun mem28 hx28 => ?_)
        subst hx28
        refine g_aload_n hC dX4_openAt_31 rfl ?_
        refine g_getR hC fdX4_9 (by assumption) (by assumption) dX4_openAt_32 ?_
        refine g_iload_n hC dX4_openAt_35 rfl ?_
        refine g_iload_n hC dX4_openAt_36 rfl ?_
        refine g_iast hC (by assumption) (by omega) (by omega) (by decide) dX4_openAt_37 ?_
        refine g_aload_n hC dX4_openAt_38 rfl ?_
        refine g_getR hC fdX4_15 (by assumption) (by assumption) dX4_openAt_39 ?_
        refine g_iload_n hC dX4_openAt_42 rfl ?_
        refine g_iconst hC dX4_openAt_43 ?_
        refine g_iast hC (by assumption) (by omega) (by omega) (by decide) dX4_openAt_44 ?_
        refine g_aload_n hC dX4_openAt_45 rfl ?_
        refine g_dup hC dX4_openAt_46 rfl ?_
        refine g_getI hC fdX4_22 (by assumption) dX4_openAt_47 ?_
        refine g_iconst hC dX4_openAt_50 ?_
        refine g_iadd hC dX4_openAt_51 ?_
        refine g_putI hC fdX4_22 (by assumption) rfl rfl dX4_openAt_52 ?_
        refine g_iconst hC dX4_openAt_55 ?_
        refine g_zret hC hI rfl (by decide +kernel) dX4_openAt_56 (Nat.le_of_ble_eq_true rfl) (Nat.le_of_ble_eq_true rfl) ⟨rfl, rfl, _, rfl, ?_⟩
        refine Or.inl ⟨rfl, by omega, by omega, by omega, LnV_ins (v := xs.length + 1) hO9 hi9 hv9 hn (by omega) (by omega) rfl ?_⟩
        rw [gup_a _ _ _ _ n2, gup_a _ _ _ _ n1, shf_o n1 n2 n3, show (i + 1).toNat = i.toNat + 1 by omega, show (mem a 3 - i).toNat = xs.length - i.toNat by omega, hv1]
      · refine g_iconst hC dX4_openAt_21 ?_
        refine g_zret hC hI rfl (by decide +kernel) dX4_openAt_22 (Nat.le_of_ble_eq_true rfl) (Nat.le_of_ble_eq_true rfl) ⟨rfl, rfl, _, rfl, ?_⟩
        exact Or.inr ⟨rfl, by omega, rfl⟩
set_option maxHeartbeats 4000000 in
set_option maxRecDepth 100000 in
theorem kX4_openAtEnd (l : Launch) (D : va_G) (ac : Nat → ClassId) {sh : Nat → Nat × Nat} {rf : Nat → Nat → Option Nat} {mem : Nat → Nat → Int} (a a0 a1 a2 : Nat) (xs : Lns) (n : Int) (hO : LnO sh rf a a0 a1 a2) (hi : LnI mem a a0 a1 a2) (hv : LnV mem a a0 a1 a2 xs) (hn : 0 ≤ n ∧ n ≤ 9999) : gMet l D ac mX4_openAtEnd 3 [.ref a, .int (iI n)] 0 0 sh rf mem (pM sh rf (fun r mem1 => (r = 1 ∧ xs.length < 30 ∧ LnI mem1 a a0 a1 a2 ∧ LnV mem1 a a0 a1 a2 (xs.insertIdx xs.length (n, [])) ∧ Fr4 mem mem1 a a0 a1 a2) ∨ (r = 0 ∧ 30 ≤ xs.length ∧ mem1 = mem))) := by
  refine gMet.mk (by decide) (by intro v hv; simp at hv; (try rcases hv with rfl | rfl) <;> rfl) (Nat.le_of_ble_eq_true rfl) (fun X hC hI => ?_)
  show gG X sh rf mem 0 0 0 [some (.ref a), some (.int (iI n))] []
  have hO9 := hO
  have hi9 := hi
  have hv9 := hv
  obtain ⟨ho, hr0, hr1, hr2, hs0, hs1, hs2, hne⟩ := hO
  obtain ⟨hn1, hn2, hin, hil, hib⟩ := hi
  obtain ⟨hv1, hv2⟩ := hv
  obtain ⟨n1, n2, n3, n4, n5, n6⟩ := hO9.ne
  have x1 := n1.symm
  have x2 := n2.symm
  have x3 := n3.symm
  have x4 := n4.symm
  have x5 := n5.symm
  have x6 := n6.symm
  refine g_aload_n hC dX4_openAtEnd_0 rfl ?_
  refine g_aload_n hC dX4_openAtEnd_1 rfl ?_
  refine g_getI hC fdX4_22 (by assumption) dX4_openAtEnd_2 ?_
  refine g_iload_n hC dX4_openAtEnd_5 rfl ?_
  refine g_VM hC (kX4_openAt (gl X) (gD X) (gac X) a a0 a1 a2 xs (mem a 3) n hO9 hi9 hv9 ⟨by omega, by omega⟩ hn) cvX4_openAt lkX4_40 (by assumption) rfl rfl (Nat.le_of_ble_eq_true rfl) (hI.fit (Nat.le_of_ble_eq_true rfl) (Nat.le_of_ble_eq_true rfl) (Nat.le_of_ble_eq_true rfl)) dX4_openAtEnd_6 (fun x6 mem6 hx6 => ?_)
  rcases hx6 with ⟨rfl, g1, g2, g3, g4, g5, g6⟩ | ⟨rfl, g1, g2⟩
  · refine g_zret hC hI rfl (by decide +kernel) dX4_openAtEnd_9 (Nat.le_of_ble_eq_true rfl) (Nat.le_of_ble_eq_true rfl) ⟨rfl, rfl, _, rfl, ?_⟩
    first | (left; rw [hv1, Int.toNat_natCast] at g5; exact ⟨rfl, g1, g4, g5, g6⟩) | (right; exact ⟨rfl, by omega, g2⟩)
  · refine g_zret hC hI rfl (by decide +kernel) dX4_openAtEnd_9 (Nat.le_of_ble_eq_true rfl) (Nat.le_of_ble_eq_true rfl) ⟨rfl, rfl, _, rfl, ?_⟩
    first | (left; rw [hv1, Int.toNat_natCast] at g5; exact ⟨rfl, g1, g4, g5, g6⟩) | (right; exact ⟨rfl, by omega, g2⟩)
set_option maxHeartbeats 4000000 in
set_option maxRecDepth 100000 in
theorem kX4_removeNumber (l : Launch) (D : va_G) (ac : Nat → ClassId) {sh : Nat → Nat × Nat} {rf : Nat → Nat → Option Nat} {mem : Nat → Nat → Int} (a a0 a1 a2 : Nat) (xs : Lns) (n : Int) (hO : LnO sh rf a a0 a1 a2) (hi : LnI mem a a0 a1 a2) (hv : LnV mem a a0 a1 a2 xs) (hp : 1 ≤ n ∧ n ≤ 9999) : gMet l D ac mX4_removeNumber 3 [.ref a, .int (iI n)] 0 0 sh rf mem (pV sh rf (fun mem1 => LnI mem1 a a0 a1 a2 ∧ LnV mem1 a a0 a1 a2 (if nu xs (plc xs n) = n then xs.eraseIdx (plc xs n) else xs) ∧ Fr4 mem mem1 a a0 a1 a2)) := by
  refine gMet.mk (by decide) (by intro v hv; simp at hv; (try rcases hv with rfl | rfl) <;> rfl) (Nat.le_of_ble_eq_true rfl) (fun X hC hI => ?_)
  show gG X sh rf mem 0 0 0 [some (.ref a), some (.int (iI n)), none] []
  have hO9 := hO
  have hi9 := hi
  have hv9 := hv
  obtain ⟨ho, hr0, hr1, hr2, hs0, hs1, hs2, hne⟩ := hO
  obtain ⟨hn1, hn2, hin, hil, hib⟩ := hi
  obtain ⟨hv1, hv2⟩ := hv
  obtain ⟨n1, n2, n3, n4, n5, n6⟩ := hO9.ne
  have x1 := n1.symm
  have x2 := n2.symm
  have x3 := n3.symm
  have x4 := n4.symm
  have x5 := n5.symm
  have x6 := n6.symm
  have hle := plc_le n xs
  have hnr : 0 ≤ nu xs (plc xs n) ∧ nu xs (plc xs n) ≤ 9999 := by
    by_cases q : plc xs n < xs.length
    · have := (hv2 _ q).1
      have := hin (plc xs n)
      omega
    · rw [nu_out (by omega)]; omega
  refine g_aload_n hC dX4_removeNumber_0 rfl ?_
  refine g_iload_n hC dX4_removeNumber_1 rfl ?_
  refine g_VP hC (kX4_placeFor (gl X) (gD X) (gac X) a a0 a1 a2 xs n hO9 hi9 hv9 ⟨by omega, by omega⟩) cvX4_placeFor lkX4_34 (by assumption) rfl rfl (Nat.le_of_ble_eq_true rfl) (hI.fit (Nat.le_of_ble_eq_true rfl) (Nat.le_of_ble_eq_true rfl) (Nat.le_of_ble_eq_true rfl)) dX4_removeNumber_2 (fun x2 hx2 => ?_)
  subst hx2
  refine g_istore_n hC 2 rfl dX4_removeNumber_5 (Nat.le_of_ble_eq_true rfl) ?_
  dsimp only [List.set]
  refine g_aload_n hC dX4_removeNumber_6 rfl ?_
  refine g_iload_n hC dX4_removeNumber_7 rfl ?_
  refine g_VP hC (kX4_numberAt (gl X) (gD X) (gac X) a a0 a1 a2 xs (plc xs n) hO9 hi9 hv9 ⟨by omega, by omega⟩) cvX4_numberAt lkX4_37 (by assumption) rfl rfl (Nat.le_of_ble_eq_true rfl) (hI.fit (Nat.le_of_ble_eq_true rfl) (Nat.le_of_ble_eq_true rfl) (Nat.le_of_ble_eq_true rfl)) dX4_removeNumber_8 (fun x8 hx8 => ?_)
  rw [Int.toNat_natCast] at hx8
  refine g_iload_n hC dX4_removeNumber_11 rfl ?_
  refine g_icmp_ne (tgt := 33) hC dX4_removeNumber_12 (by decide) ⟨by omega, by omega⟩ ⟨by omega, by omega⟩ (fun h12 => ?_) (fun h12 => ?_)
  · refine g_vret hC hI rfl dX4_removeNumber_33 (Nat.le_of_ble_eq_true rfl) (Nat.le_of_ble_eq_true rfl) ⟨rfl, rfl, rfl, ?_⟩
    first
      | (rw [if_neg (by omega)]; exact ⟨hi9, hv9, fun b _ _ _ _ => rfl⟩)
      | (rw [if_pos (by omega)]
         refine LnV_del (v := xs.length - 1) hO9 hi9 hv9 q1 rfl ?_
         rw [shf_o n1 n2 n3, show ((plc xs n : Int) + 1).toNat = plc xs n + 1 by omega, Int.toNat_natCast, show (mem a 3 - ((plc xs n : Int) + 1)).toNat = xs.length - (plc xs n + 1) by omega, hv1])
  · have q1 : plc xs n < xs.length := by
      apply Classical.byContradiction
      intro q
      have := nu_out (xs := xs) (i := plc xs n) (by omega)
      omega
    refine g_aload_n hC dX4_removeNumber_15 rfl ?_
    refine g_iload_n hC dX4_removeNumber_16 rfl ?_
    refine g_iconst hC dX4_removeNumber_17 ?_
    refine g_iadd hC dX4_removeNumber_18 ?_
    refine g_iload_n hC dX4_removeNumber_19 rfl ?_
    refine g_VV hC (kX4_shift (gl X) (gD X) (gac X) a a0 a1 a2 (plc xs n + 1) (plc xs n) hO9 hi9 ⟨by omega, by omega, by omega, by omega⟩ (by omega)) cvX4_shift lkX4_54 (by assumption) rfl rfl (Nat.le_of_ble_eq_true rfl) (hI.fit (Nat.le_of_ble_eq_true rfl) (Nat.le_of_ble_eq_true rfl) (Nat.le_of_ble_eq_true rfl)) dX4_removeNumber_20 (fun mem20 hx20 => ?_)
    subst hx20
    refine g_aload_n hC dX4_removeNumber_23 rfl ?_
    refine g_dup hC dX4_removeNumber_24 rfl ?_
    refine g_getI hC fdX4_22 (by assumption) dX4_removeNumber_25 ?_
    refine g_iconst hC dX4_removeNumber_28 ?_
    refine g_isub hC dX4_removeNumber_29 ?_
    refine g_putI hC fdX4_22 (by assumption) rfl rfl dX4_removeNumber_30 ?_
    refine g_vret hC hI rfl dX4_removeNumber_33 (Nat.le_of_ble_eq_true rfl) (Nat.le_of_ble_eq_true rfl) ⟨rfl, rfl, rfl, ?_⟩
    first
      | (rw [if_neg (by omega)]; exact ⟨hi9, hv9, fun b _ _ _ _ => rfl⟩)
      | (rw [if_pos (by omega)]
         refine LnV_del (v := xs.length - 1) hO9 hi9 hv9 q1 rfl ?_
         rw [shf_o n1 n2 n3, show ((plc xs n : Int) + 1).toNat = plc xs n + 1 by omega, Int.toNat_natCast, show (mem a 3 - ((plc xs n : Int) + 1)).toNat = xs.length - (plc xs n + 1) by omega, hv1])
