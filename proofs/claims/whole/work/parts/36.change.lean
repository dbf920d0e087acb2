/-! ChangeText: the changes are lines; one without signs is a deletion -/
def CtO (sh : Nat → Nat × Nat) (rf : Nat → Nat → Option Nat) (t a : Nat) : Prop := sh t = (1, 0) ∧ rf t 0 = some a
theorem ins_end (xs : Lns) (v : Int × List Int) : xs.insertIdx xs.length v = xs ++ [v] := by
  apply List.ext_getElem?
  intro j
  rw [List.getElem?_insertIdx]
  by_cases h : j < xs.length
  · rw [if_pos h, List.getElem?_append_left h]
  · rw [if_neg h, List.getElem?_append_right (by omega)]
    by_cases h2 : j = xs.length
    · subst h2
      simp
    · rw [if_neg h2, List.getElem?_eq_none (by omega), List.getElem?_eq_none (by simp; omega)]
def tk (ch : Lns) (n : Int) : Prop := nu ch (ch.length - 1) = n ∧ 0 < (sg ch (ch.length - 1)).length ∧ (sg ch (ch.length - 1)).length < 10
theorem tk_pos {ch : Lns} {n : Int} (h : tk ch n) (hn : 1 ≤ n) : 0 < ch.length := by
  apply Classical.byContradiction
  intro q
  have h1 := nu_out (xs := ch) (i := ch.length - 1) (by omega)
  have h2 := h.1
  omega
def chDel (ch : Lns) (n : Int) : Lns := if ch.length < 20 then ch ++ [(n, [])] else ch
/-- a sign more of the change text -/
def chSig (ch : Lns) (n c : Int) (b : Prop) : Lns → Prop := fun ys => (b → ys = lnAdd ch (ch.length - 1) c) ∧ (¬ b → ch.length < 20 → ys = lnAdd (ch ++ [(n, [])]) ch.length c) ∧ (¬ b → ¬ ch.length < 20 → ys = ch)
theorem drop_ln {ch : Lns} {i : Nat} (h : i < ch.length) : ch.drop i = (nu ch i, sg ch i) :: ch.drop (i + 1) := by
  rw [List.drop_eq_getElem_cons h]
  congr 1
  simp [nu, sg, List.getD_eq_getElem?_getD, List.getElem?_eq_getElem h]
/-- the change that refuses, from 1 on; 0 without -/
def rfS (xs : Lns) : Lns → Int → Int → Int → Int
  | [], _, _, _ => 0
  | x :: t, k, z, before =>
    if x.1 ≤ before ∨ (x.2 = [] ∧ nu xs (plc xs x.1) ≠ x.1) ∨ 30 < (if x.2 = [] then z - 1 else if nu xs (plc xs x.1) = x.1 then z else z + 1) then k + 1
    else rfS xs t (k + 1) (if x.2 = [] then z - 1 else if nu xs (plc xs x.1) = x.1 then z else z + 1) x.1
/-- the lines behind an update -/
def upS (xs : Lns) : Lns → Lns
  | [] => xs
  | x :: t => upS (if x.2 = [] then (if nu xs (plc xs x.1) = x.1 then xs.eraseIdx (plc xs x.1) else xs) else lnPut xs x.1 x.2) t
theorem rfS_d {xs ch : Lns} {k : Nat} {z before : Int} (h : k < ch.length) (dl : sg ch k = []) (th : nu xs (plc xs (nu ch k)) = nu ch k) : rfS xs (ch.drop k) k z before = if nu ch k ≤ before ∨ 30 < z + -1 then (k : Int) + 1 else rfS xs (ch.drop (k + 1)) ((k : Int) + 1) (z + -1) (nu ch k) := by
  rw [drop_ln h, rfS]
  simp only [dl, th, if_true, ne_eq, not_true_eq_false, and_false, false_or]
  rw [show z - 1 = z + -1 by omega]
theorem rfS_dn {xs ch : Lns} {k : Nat} {z before : Int} (h : k < ch.length) (dl : sg ch k = []) (th : ¬ nu xs (plc xs (nu ch k)) = nu ch k) : rfS xs (ch.drop k) k z before = (k : Int) + 1 := by
  rw [drop_ln h, rfS, if_pos (Or.inr (Or.inl ⟨dl, th⟩))]
theorem rfS_t {xs ch : Lns} {k : Nat} {z before : Int} (h : k < ch.length) (dl : ¬ sg ch k = []) (th : nu xs (plc xs (nu ch k)) = nu ch k) : rfS xs (ch.drop k) k z before = if nu ch k ≤ before ∨ 30 < z then (k : Int) + 1 else rfS xs (ch.drop (k + 1)) ((k : Int) + 1) z (nu ch k) := by
  rw [drop_ln h, rfS]
  simp only [dl, th, if_true, if_false, ne_eq, not_true_eq_false, and_false, false_or]
theorem rfS_n {xs ch : Lns} {k : Nat} {z before : Int} (h : k < ch.length) (dl : ¬ sg ch k = []) (th : ¬ nu xs (plc xs (nu ch k)) = nu ch k) : rfS xs (ch.drop k) k z before = if nu ch k ≤ before ∨ 30 < z + 1 then (k : Int) + 1 else rfS xs (ch.drop (k + 1)) ((k : Int) + 1) (z + 1) (nu ch k) := by
  rw [drop_ln h, rfS]
  simp only [dl, th, if_false, false_and, false_or]
theorem len0 {s : List Int} : s.length = 0 ↔ s = [] := List.length_eq_zero_iff
set_option maxHeartbeats 4000000 in
set_option maxRecDepth 100000 in
theorem kX0_size (l : Launch) (D : va_G) (ac : Nat → ClassId) {sh : Nat → Nat × Nat} {rf : Nat → Nat → Option Nat} {mem : Nat → Nat → Int} (t : Nat) (a a0 a1 a2 : Nat) (ch : Lns) (hT : CtO sh rf t a) (hO : LnO sh rf a a0 a1 a2) (hi : LnI mem a a0 a1 a2) (hv : LnV mem a a0 a1 a2 ch) : gMet l D ac mX0_size 1 [.ref t] 0 0 sh rf mem (pP sh rf mem (fun r => r = ch.length)) := by
  refine gMet.mk (by decide) (by intro v hv; simp at hv; (try rcases hv with rfl) <;> rfl) (Nat.le_of_ble_eq_true rfl) (fun X hC hI => ?_)
  show gG X sh rf mem 0 0 0 [some (.ref t)] []
  have hO9 := hO
  have hi9 := hi
  have hv9 := hv
  have ho := hO.1
  obtain ⟨hT1, hT2⟩ := hT
  have hlen := hv9.1
  have h30 := hi9.2.1
  refine g_aload_n hC dX0_size_0 rfl ?_
  refine g_getR hC fdX0_12 (by assumption) (by assumption) dX0_size_1 ?_
  refine g_VP hC (kX4_size (gl X) (gD X) (gac X) a a0 a1 a2 hO9) cvX4_size lkX0_18 (by assumption) rfl rfl (Nat.le_of_ble_eq_true rfl) (hI.fit (Nat.le_of_ble_eq_true rfl) (Nat.le_of_ble_eq_true rfl) (Nat.le_of_ble_eq_true rfl)) dX0_size_4 (fun x4 hx4 => ?_)
  refine g_iret hC hI rfl dX0_size_7 (Nat.le_of_ble_eq_true rfl) (Nat.le_of_ble_eq_true rfl) ⟨rfl, rfl, rfl, _, rfl, ?_⟩
  omega
set_option maxHeartbeats 4000000 in
set_option maxRecDepth 100000 in
theorem kX0_clear (l : Launch) (D : va_G) (ac : Nat → ClassId) {sh : Nat → Nat × Nat} {rf : Nat → Nat → Option Nat} {mem : Nat → Nat → Int} (t : Nat) (a a0 a1 a2 : Nat) (ch : Lns) (hT : CtO sh rf t a) (hO : LnO sh rf a a0 a1 a2) (hi : LnI mem a a0 a1 a2) (hv : LnV mem a a0 a1 a2 ch) : gMet l D ac mX0_clear 1 [.ref t] 0 0 sh rf mem (pV sh rf (fun mem1 => LnI mem1 a a0 a1 a2 ∧ LnV mem1 a a0 a1 a2 ([]) ∧ Fr4 mem mem1 a a0 a1 a2)) := by
  refine gMet.mk (by decide) (by intro v hv; simp at hv; (try rcases hv with rfl) <;> rfl) (Nat.le_of_ble_eq_true rfl) (fun X hC hI => ?_)
  show gG X sh rf mem 0 0 0 [some (.ref t)] []
  have hO9 := hO
  have hi9 := hi
  have hv9 := hv
  have ho := hO.1
  obtain ⟨hT1, hT2⟩ := hT
  have hlen := hv9.1
  have h30 := hi9.2.1
  refine g_aload_n hC dX0_clear_0 rfl ?_
  refine g_getR hC fdX0_12 (by assumption) (by assumption) dX0_clear_1 ?_
  refine g_VV hC (kX4_clear (gl X) (gD X) (gac X) a a0 a1 a2 hO9) cvX4_clear lkX0_22 (by assumption) rfl rfl (Nat.le_of_ble_eq_true rfl) (hI.fit (Nat.le_of_ble_eq_true rfl) (Nat.le_of_ble_eq_true rfl) (Nat.le_of_ble_eq_true rfl)) dX0_clear_4 (fun mem4 hx4 => ?_)
  refine g_vret hC hI rfl dX0_clear_7 (Nat.le_of_ble_eq_true rfl) (Nat.le_of_ble_eq_true rfl) ⟨rfl, rfl, rfl, ?_⟩
  subst hx4
  obtain ⟨n1, n2, n3, n4, n5, n6⟩ := hO9.ne
  obtain ⟨i1, i2, i3, i4, i5⟩ := hi9
  refine ⟨⟨by rw [gup_s]; decide, by rw [gup_s]; decide, fun i => ?_, fun i => ?_, fun i => ?_⟩, ⟨by rw [gup_s]; rfl, fun i hi => absurd hi (Nat.not_lt_zero i)⟩, fun b b1 b2 b3 b4 => by funext j; rw [gup_a _ _ _ _ b1]⟩
  · rw [gup_a _ _ _ _ n1.symm]; exact i3 i
  · rw [gup_a _ _ _ _ n2.symm]; exact i4 i
  · rw [gup_a _ _ _ _ n3.symm]; exact i5 i
set_option maxHeartbeats 4000000 in
set_option maxRecDepth 100000 in
theorem kX0_begin (l : Launch) (D : va_G) (ac : Nat → ClassId) {sh : Nat → Nat × Nat} {rf : Nat → Nat → Option Nat} {mem : Nat → Nat → Int} (t : Nat) (a a0 a1 a2 : Nat) (ch : Lns) (n : Int) (hT : CtO sh rf t a) (hO : LnO sh rf a a0 a1 a2) (hi : LnI mem a a0 a1 a2) (hv : LnV mem a a0 a1 a2 ch) (hn : 0 ≤ n ∧ n ≤ 9999) : gMet l D ac mX0_begin 4 [.ref t, .int (iI n)] 0 0 sh rf mem (pM sh rf (fun r mem1 => (r = 1 ∧ ch.length < 20 ∧ LnI mem1 a a0 a1 a2 ∧ LnV mem1 a a0 a1 a2 (ch ++ [(n, [])]) ∧ Fr4 mem mem1 a a0 a1 a2) ∨ (r = 0 ∧ ¬ ch.length < 20 ∧ mem1 = mem))) := by
  refine gMet.mk (by decide) (by intro v hv; simp at hv; (try rcases hv with rfl | rfl) <;> rfl) (Nat.le_of_ble_eq_true rfl) (fun X hC hI => ?_)
  show gG X sh rf mem 0 0 0 [some (.ref t), some (.int (iI n))] []
  have hO9 := hO
  have hi9 := hi
  have hv9 := hv
  have ho := hO.1
  obtain ⟨hT1, hT2⟩ := hT
  have hlen := hv9.1
  have h30 := hi9.2.1
  refine g_aload_n hC dX0_begin_0 rfl ?_
  refine g_getR hC fdX0_12 (by assumption) (by assumption) dX0_begin_1 ?_
  refine g_VP hC (kX4_size (gl X) (gD X) (gac X) a a0 a1 a2 hO9) cvX4_size lkX0_18 (by assumption) rfl rfl (Nat.le_of_ble_eq_true rfl) (hI.fit (Nat.le_of_ble_eq_true rfl) (Nat.le_of_ble_eq_true rfl) (Nat.le_of_ble_eq_true rfl)) dX0_begin_4 (fun x4 hx4 => ?_)
  refine g_bipush hC dX0_begin_7 (by decide +kernel) ?_
  refine g_icmp_ge (tgt := 27) hC dX0_begin_9 (by decide) ⟨by omega, by omega⟩ ⟨by omega, by omega⟩ (fun h9 => ?_) (fun h9 => ?_)
  · refine g_iconst hC dX0_begin_27 ?_
    refine g_zret hC hI rfl (by decide +kernel) dX0_begin_28 (Nat.le_of_ble_eq_true rfl) (Nat.le_of_ble_eq_true rfl) ⟨rfl, rfl, _, rfl, ?_⟩
    first | (exfalso; omega) | (left; rw [ins_end] at g3; exact ⟨rfl, by omega, g2, g3, g4⟩) | exact Or.inr ⟨rfl, by omega, rfl⟩
  · refine g_aload_n hC dX0_begin_12 rfl ?_
    refine g_getR hC fdX0_12 (by assumption) (by assumption) dX0_begin_13 ?_
    refine g_iload_n hC dX0_begin_16 rfl ?_
    refine g_VM hC (kX4_openAtEnd (gl X) (gD X) (gac X) a a0 a1 a2 ch n hO9 hi9 hv9 hn) cvX4_openAtEnd lkX0_57 (by assumption) rfl rfl (Nat.le_of_ble_eq_true rfl) (hI.fit (Nat.le_of_ble_eq_true rfl) (Nat.le_of_ble_eq_true rfl) (Nat.le_of_ble_eq_true rfl)) dX0_begin_17 (fun x17 mem17 hx17 => ?_)
    rcases hx17 with ⟨rfl, g1, g2, g3, g4⟩ | ⟨rfl, g1, g2⟩
    · refine g_if_eq (tgt := 27) hC dX0_begin_20 (by decide) ⟨by omega, by omega⟩ (fun h20 => ?_) (fun h20 => ?_)
      · refine g_iconst hC dX0_begin_27 ?_
        refine g_zret hC hI rfl (by decide +kernel) dX0_begin_28 (Nat.le_of_ble_eq_true rfl) (Nat.le_of_ble_eq_true rfl) ⟨rfl, rfl, _, rfl, ?_⟩
        first | (exfalso; omega) | (left; rw [ins_end] at g3; exact ⟨rfl, by omega, g2, g3, g4⟩) | exact Or.inr ⟨rfl, by omega, rfl⟩
      · refine g_iconst hC dX0_begin_23 ?_
        refine g_goto (tgt := 28) hC dX0_begin_24 (by decide) ?_
        refine g_zret hC hI rfl (by decide +kernel) dX0_begin_28 (Nat.le_of_ble_eq_true rfl) (Nat.le_of_ble_eq_true rfl) ⟨rfl, rfl, _, rfl, ?_⟩
        first | (exfalso; omega) | (left; rw [ins_end] at g3; exact ⟨rfl, by omega, g2, g3, g4⟩) | exact Or.inr ⟨rfl, by omega, rfl⟩
    · refine g_if_eq (tgt := 27) hC dX0_begin_20 (by decide) ⟨by omega, by omega⟩ (fun h20 => ?_) (fun h20 => ?_)
      · refine g_iconst hC dX0_begin_27 ?_
        refine g_zret hC hI rfl (by decide +kernel) dX0_begin_28 (Nat.le_of_ble_eq_true rfl) (Nat.le_of_ble_eq_true rfl) ⟨rfl, rfl, _, rfl, ?_⟩
        first | (exfalso; omega) | (left; rw [ins_end] at g3; exact ⟨rfl, by omega, g2, g3, g4⟩) | exact Or.inr ⟨rfl, by omega, rfl⟩
      · refine g_iconst hC dX0_begin_23 ?_
        refine g_goto (tgt := 28) hC dX0_begin_24 (by decide) ?_
        refine g_zret hC hI rfl (by decide +kernel) dX0_begin_28 (Nat.le_of_ble_eq_true rfl) (Nat.le_of_ble_eq_true rfl) ⟨rfl, rfl, _, rfl, ?_⟩
        first | (exfalso; omega) | (left; rw [ins_end] at g3; exact ⟨rfl, by omega, g2, g3, g4⟩) | exact Or.inr ⟨rfl, by omega, rfl⟩
set_option maxHeartbeats 4000000 in
set_option maxRecDepth 100000 in
theorem kX0_addDeletion (l : Launch) (D : va_G) (ac : Nat → ClassId) {sh : Nat → Nat × Nat} {rf : Nat → Nat → Option Nat} {mem : Nat → Nat → Int} (t : Nat) (a a0 a1 a2 : Nat) (ch : Lns) (n : Int) (hT : CtO sh rf t a) (hO : LnO sh rf a a0 a1 a2) (hi : LnI mem a a0 a1 a2) (hv : LnV mem a a0 a1 a2 ch) (hn : 0 ≤ n ∧ n ≤ 9999) : gMet l D ac mX0_addDeletion 5 [.ref t, .int (iI n)] 0 0 sh rf mem (pV sh rf (fun mem1 => LnI mem1 a a0 a1 a2 ∧ LnV mem1 a a0 a1 a2 (chDel ch n) ∧ Fr4 mem mem1 a a0 a1 a2)) := by
  refine gMet.mk (by decide) (by intro v hv; simp at hv; (try rcases hv with rfl | rfl) <;> rfl) (Nat.le_of_ble_eq_true rfl) (fun X hC hI => ?_)
  show gG X sh rf mem 0 0 0 [some (.ref t), some (.int (iI n))] []
  have hO9 := hO
  have hi9 := hi
  have hv9 := hv
  have ho := hO.1
  obtain ⟨hT1, hT2⟩ := hT
  have hlen := hv9.1
  have h30 := hi9.2.1
  have hT9 : CtO sh rf t a := ⟨hT1, hT2⟩
  refine g_aload_n hC dX0_addDeletion_0 rfl ?_
  refine g_iload_n hC dX0_addDeletion_1 rfl ?_
  refine g_VM hC (kX0_begin (gl X) (gD X) (gac X) t a a0 a1 a2 ch n hT9 hO9 hi9 hv9 hn) cvX0_begin lkX0_25 (by assumption) rfl rfl (Nat.le_of_ble_eq_true rfl) (hI.fit (Nat.le_of_ble_eq_true rfl) (Nat.le_of_ble_eq_true rfl) (Nat.le_of_ble_eq_true rfl)) dX0_addDeletion_2 (fun x2 mem2 hx2 => ?_)
  refine g_pop hC dX0_addDeletion_5 rfl ?_
  refine g_vret hC hI rfl dX0_addDeletion_6 (Nat.le_of_ble_eq_true rfl) (Nat.le_of_ble_eq_true rfl) ⟨rfl, rfl, rfl, ?_⟩
  rcases hx2 with ⟨-, g1, g2, g3, g4⟩ | ⟨-, g1, g2⟩
  · rw [chDel, if_pos g1]; exact ⟨g2, g3, g4⟩
  · rw [chDel, if_neg g1, g2]; exact ⟨hi9, hv9, Fr4.rf⟩
set_option maxHeartbeats 4000000 in
set_option maxRecDepth 100000 in
theorem kX0_isDeletion (l : Launch) (D : va_G) (ac : Nat → ClassId) {sh : Nat → Nat × Nat} {rf : Nat → Nat → Option Nat} {mem : Nat → Nat → Int} (t : Nat) (a a0 a1 a2 : Nat) (ch : Lns) (i : Int) (hT : CtO sh rf t a) (hO : LnO sh rf a a0 a1 a2) (hi : LnI mem a a0 a1 a2) (hv : LnV mem a a0 a1 a2 ch) (hp : 0 ≤ i ∧ i ≤ 100) : gMet l D ac mX0_isDeletion 2 [.ref t, .int (iI i)] 0 0 sh rf mem (pP sh rf mem (fun r => (r = 1 ∧ sg ch i.toNat = []) ∨ (r = 0 ∧ sg ch i.toNat ≠ []))) := by
  refine gMet.mk (by decide) (by intro v hv; simp at hv; (try rcases hv with rfl | rfl) <;> rfl) (Nat.le_of_ble_eq_true rfl) (fun X hC hI => ?_)
  show gG X sh rf mem 0 0 0 [some (.ref t), some (.int (iI i))] []
  have hO9 := hO
  have hi9 := hi
  have hv9 := hv
  have ho := hO.1
  obtain ⟨hT1, hT2⟩ := hT
  have hlen := hv9.1
  have h30 := hi9.2.1
  have hls := (LnV.len hi9 hv9 i.toNat).1
  refine g_aload_n hC dX0_isDeletion_0 rfl ?_
  refine g_getR hC fdX0_12 (by assumption) (by assumption) dX0_isDeletion_1 ?_
  refine g_iload_n hC dX0_isDeletion_4 rfl ?_
  refine g_VP hC (kX4_lengthAt (gl X) (gD X) (gac X) a a0 a1 a2 ch i hO9 hi9 hv9 ⟨by omega, by omega⟩) cvX4_lengthAt lkX0_54 (by assumption) rfl rfl (Nat.le_of_ble_eq_true rfl) (hI.fit (Nat.le_of_ble_eq_true rfl) (Nat.le_of_ble_eq_true rfl) (Nat.le_of_ble_eq_true rfl)) dX0_isDeletion_5 (fun x5 hx5 => ?_)
  refine g_if_ne (tgt := 15) hC dX0_isDeletion_8 (by decide) ⟨by omega, by omega⟩ (fun h8 => ?_) (fun h8 => ?_)
  · refine g_iconst hC dX0_isDeletion_15 ?_
    refine g_zret hC hI rfl (by decide +kernel) dX0_isDeletion_16 (Nat.le_of_ble_eq_true rfl) (Nat.le_of_ble_eq_true rfl) ⟨rfl, rfl, rfl, _, rfl, ?_⟩
    first | exact Or.inl ⟨rfl, len0.mp (by omega)⟩ | exact Or.inr ⟨rfl, fun q => by rw [q] at hx5; simp at hx5; omega⟩
  · refine g_iconst hC dX0_isDeletion_11 ?_
    refine g_goto (tgt := 16) hC dX0_isDeletion_12 (by decide) ?_
    refine g_zret hC hI rfl (by decide +kernel) dX0_isDeletion_16 (Nat.le_of_ble_eq_true rfl) (Nat.le_of_ble_eq_true rfl) ⟨rfl, rfl, rfl, _, rfl, ?_⟩
    first | exact Or.inl ⟨rfl, len0.mp (by omega)⟩ | exact Or.inr ⟨rfl, fun q => by rw [q] at hx5; simp at hx5; omega⟩
set_option maxHeartbeats 4000000 in
set_option maxRecDepth 100000 in
theorem kX0_takesSignMore (l : Launch) (D : va_G) (ac : Nat → ClassId) {sh : Nat → Nat × Nat} {rf : Nat → Nat → Option Nat} {mem : Nat → Nat → Int} (t : Nat) (a a0 a1 a2 : Nat) (ch : Lns) (n : Int) (hT : CtO sh rf t a) (hO : LnO sh rf a a0 a1 a2) (hi : LnI mem a a0 a1 a2) (hv : LnV mem a a0 a1 a2 ch) (hp : 1 ≤ n ∧ n ≤ 9999) : gMet l D ac mX0_takesSignMore 2 [.ref t, .int (iI n)] 0 0 sh rf mem (pP sh rf mem (fun r => (r = 1 ∧ tk ch n) ∨ (r = 0 ∧ ¬ tk ch n))) := by
  refine gMet.mk (by decide) (by intro v hv; simp at hv; (try rcases hv with rfl | rfl) <;> rfl) (Nat.le_of_ble_eq_true rfl) (fun X hC hI => ?_)
  show gG X sh rf mem 0 0 0 [some (.ref t), some (.int (iI n)), none, none] []
  have hO9 := hO
  have hi9 := hi
  have hv9 := hv
  have ho := hO.1
  obtain ⟨hT1, hT2⟩ := hT
  have hlen := hv9.1
  have h30 := hi9.2.1
  have hls := LnV.len hi9 hv9 (ch.length - 1)
  have hz : ch.length = 0 → nu ch (ch.length - 1) = 0 := fun q => nu_out (by omega)
  have htk : tk ch n ↔ nu ch (ch.length - 1) = n ∧ 0 < (sg ch (ch.length - 1)).length ∧ (sg ch (ch.length - 1)).length < 10 := Iff.rfl
  refine g_aload_n hC dX0_takesSignMore_0 rfl ?_
  refine g_getR hC fdX0_12 (by assumption) (by assumption) dX0_takesSignMore_1 ?_
  refine g_VP hC (kX4_size (gl X) (gD X) (gac X) a a0 a1 a2 hO9) cvX4_size lkX0_18 (by assumption) rfl rfl (Nat.le_of_ble_eq_true rfl) (hI.fit (Nat.le_of_ble_eq_true rfl) (Nat.le_of_ble_eq_true rfl) (Nat.le_of_ble_eq_true rfl)) dX0_takesSignMore_4 (fun x4 hx4 => ?_)
  have q4 : (x4 - 1).toNat = ch.length - 1 := by omega
  refine g_iconst hC dX0_takesSignMore_7 ?_
  refine g_isub hC dX0_takesSignMore_8 ?_
  refine g_istore_n hC 2 rfl dX0_takesSignMore_9 (Nat.le_of_ble_eq_true rfl) ?_
  dsimp only [List.set]
  refine g_aload_n hC dX0_takesSignMore_10 rfl ?_
  refine g_getR hC fdX0_12 (by assumption) (by assumption) dX0_takesSignMore_11 ?_
  refine g_iload_n hC dX0_takesSignMore_14 rfl ?_
  refine g_VP hC (kX4_lengthAt (gl X) (gD X) (gac X) a a0 a1 a2 ch _ hO9 hi9 hv9 ⟨by omega, by omega⟩) cvX4_lengthAt lkX0_54 (by assumption) rfl rfl (Nat.le_of_ble_eq_true rfl) (hI.fit (Nat.le_of_ble_eq_true rfl) (Nat.le_of_ble_eq_true rfl) (Nat.le_of_ble_eq_true rfl)) dX0_takesSignMore_15 (fun x15 hx15 => ?_)
  rw [q4] at hx15
  refine g_istore_n hC 3 rfl dX0_takesSignMore_18 (Nat.le_of_ble_eq_true rfl) ?_
  dsimp only [List.set]
  refine g_aload_n hC dX0_takesSignMore_19 rfl ?_
  refine g_getR hC fdX0_12 (by assumption) (by assumption) dX0_takesSignMore_20 ?_
  refine g_iload_n hC dX0_takesSignMore_23 rfl ?_
  refine g_VP hC (kX4_numberAt (gl X) (gD X) (gac X) a a0 a1 a2 ch _ hO9 hi9 hv9 ⟨by omega, by omega⟩) cvX4_numberAt lkX0_36 (by assumption) rfl rfl (Nat.le_of_ble_eq_true rfl) (hI.fit (Nat.le_of_ble_eq_true rfl) (Nat.le_of_ble_eq_true rfl) (Nat.le_of_ble_eq_true rfl)) dX0_takesSignMore_24 (fun x24 hx24 => ?_)
  rw [q4] at hx24
  refine g_iload_n hC dX0_takesSignMore_27 rfl ?_
  refine g_icmp_ne (tgt := 45) hC dX0_takesSignMore_28 (by decide) ⟨by omega, by omega⟩ ⟨by omega, by omega⟩ (fun h28 => ?_) (fun h28 => ?_)
  · refine g_iconst hC dX0_takesSignMore_45 ?_
    refine g_zret hC hI rfl (by decide +kernel) dX0_takesSignMore_46 (Nat.le_of_ble_eq_true rfl) (Nat.le_of_ble_eq_true rfl) ⟨rfl, rfl, rfl, _, rfl, ?_⟩
    rw [htk]
    omega
  · refine g_iload_n hC dX0_takesSignMore_31 rfl ?_
    refine g_if_le (tgt := 45) hC dX0_takesSignMore_32 (by decide) ⟨by omega, by omega⟩ (fun h32 => ?_) (fun h32 => ?_)
    · refine g_iconst hC dX0_takesSignMore_45 ?_
      refine g_zret hC hI rfl (by decide +kernel) dX0_takesSignMore_46 (Nat.le_of_ble_eq_true rfl) (Nat.le_of_ble_eq_true rfl) ⟨rfl, rfl, rfl, _, rfl, ?_⟩
      rw [htk]
      omega
    · refine g_iload_n hC dX0_takesSignMore_35 rfl ?_
      refine g_bipush hC dX0_takesSignMore_36 (by decide +kernel) ?_
      refine g_icmp_ge (tgt := 45) hC dX0_takesSignMore_38 (by decide) ⟨by omega, by omega⟩ ⟨by omega, by omega⟩ (fun h38 => ?_) (fun h38 => ?_)
      · refine g_iconst hC dX0_takesSignMore_45 ?_
        refine g_zret hC hI rfl (by decide +kernel) dX0_takesSignMore_46 (Nat.le_of_ble_eq_true rfl) (Nat.le_of_ble_eq_true rfl) ⟨rfl, rfl, rfl, _, rfl, ?_⟩
        rw [htk]
        omega
      · refine g_iconst hC dX0_takesSignMore_41 ?_
        refine g_goto (tgt := 46) hC dX0_takesSignMore_42 (by decide) ?_
        refine g_zret hC hI rfl (by decide +kernel) dX0_takesSignMore_46 (Nat.le_of_ble_eq_true rfl) (Nat.le_of_ble_eq_true rfl) ⟨rfl, rfl, rfl, _, rfl, ?_⟩
        rw [htk]
        omega
set_option maxHeartbeats 4000000 in
set_option maxRecDepth 100000 in
theorem kX0_addSign (l : Launch) (D : va_G) (ac : Nat → ClassId) {sh : Nat → Nat × Nat} {rf : Nat → Nat → Option Nat} {mem : Nat → Nat → Int} (t : Nat) (a a0 a1 a2 : Nat) (ch : Lns) (n c : Int) (hT : CtO sh rf t a) (hO : LnO sh rf a a0 a1 a2) (hi : LnI mem a a0 a1 a2) (hv : LnV mem a a0 a1 a2 ch) (hp : 1 ≤ n ∧ n ≤ 9999) (hc : 32 ≤ c ∧ c ≤ 126) : gMet l D ac mX0_addSign 5 [.ref t, .int (iI n), .int (iI c)] 0 0 sh rf mem (pV sh rf (fun mem1 => ∃ ys, chSig ch n c (tk ch n) ys ∧ LnI mem1 a a0 a1 a2 ∧ LnV mem1 a a0 a1 a2 ys ∧ Fr4 mem mem1 a a0 a1 a2)) := by
  refine gMet.mk (by decide) (by intro v hv; simp at hv; (try rcases hv with rfl | rfl | rfl) <;> rfl) (Nat.le_of_ble_eq_true rfl) (fun X hC hI => ?_)
  show gG X sh rf mem 0 0 0 [some (.ref t), some (.int (iI n)), some (.int (iI c))] []
  have hO9 := hO
  have hi9 := hi
  have hv9 := hv
  have ho := hO.1
  obtain ⟨hT1, hT2⟩ := hT
  have hlen := hv9.1
  have h30 := hi9.2.1
  have hT9 : CtO sh rf t a := ⟨hT1, hT2⟩
  refine g_aload_n hC dX0_addSign_0 rfl ?_
  refine g_iload_n hC dX0_addSign_1 rfl ?_
  refine g_VP hC (kX0_takesSignMore (gl X) (gD X) (gac X) t a a0 a1 a2 ch n hT9 hO9 hi9 hv9 hp) cvX0_takesSignMore lkX0_29 (by assumption) rfl rfl (Nat.le_of_ble_eq_true rfl) (hI.fit (Nat.le_of_ble_eq_true rfl) (Nat.le_of_ble_eq_true rfl) (Nat.le_of_ble_eq_true rfl)) dX0_addSign_2 (fun x2 hx2 => ?_)
  refine g_if_ne (tgt := 16) hC dX0_addSign_5 (by decide) ⟨by omega, by omega⟩ (fun h5 => ?_) (fun h5 => ?_)
  · obtain ⟨ys, hiy, hvy, hfy, hys⟩ : ∃ ys, LnI mem a a0 a1 a2 ∧ LnV mem a a0 a1 a2 ys ∧ Fr4 mem mem a a0 a1 a2 ∧ ((tk ch n ∧ ys = ch ∧ 0 < ch.length) ∨ (¬ tk ch n ∧ ch.length < 20 ∧ ys = ch ++ [(n, [])])) := by
      first
      | (exfalso; omega)
      | exact ⟨_, g2, g3, g4, Or.inr ⟨hx2.elim (fun q => by omega) (fun q => q.2), g1, rfl⟩⟩
      | (have h9 : tk ch n := hx2.elim (fun q => q.2) (fun q => absurd q.1 h5)
         exact ⟨ch, hi9, hv9, Fr4.rf, Or.inl ⟨h9, rfl, tk_pos h9 hp.1⟩⟩)
    have hly := hvy.1
    have h3y := hiy.2.1
    refine g_aload_n hC dX0_addSign_16 rfl ?_
    refine g_getR hC fdX0_12 (by assumption) (by assumption) dX0_addSign_17 ?_
    refine g_aload_n hC dX0_addSign_20 rfl ?_
    refine g_getR hC fdX0_12 (by assumption) (by assumption) dX0_addSign_21 ?_
    refine g_VP hC (kX4_size (gl X) (gD X) (gac X) a a0 a1 a2 hO9) cvX4_size lkX0_18 (by assumption) rfl rfl (Nat.le_of_ble_eq_true rfl) (hI.fit (Nat.le_of_ble_eq_true rfl) (Nat.le_of_ble_eq_true rfl) (Nat.le_of_ble_eq_true rfl)) dX0_addSign_24 (fun x24 hx24 => ?_)
    refine g_iconst hC dX0_addSign_27 ?_
    refine g_isub hC dX0_addSign_28 ?_
    refine g_iload_n hC dX0_addSign_29 rfl ?_
    refine g_VV hC (kX4_addSignAt (gl X) (gD X) (gac X) a a0 a1 a2 ys _ c hO9 hiy hvy ⟨by omega, by omega⟩ hc) cvX4_addSignAt lkX0_32 (by assumption) rfl rfl (Nat.le_of_ble_eq_true rfl) (hI.fit (Nat.le_of_ble_eq_true rfl) (Nat.le_of_ble_eq_true rfl) (Nat.le_of_ble_eq_true rfl)) dX0_addSign_30 (fun mem30 hx30 => ?_)
    refine g_vret hC hI rfl dX0_addSign_33 (Nat.le_of_ble_eq_true rfl) (Nat.le_of_ble_eq_true rfl) ⟨rfl, rfl, rfl, ?_⟩
    first
    | (exfalso; omega)
    | (rcases hys with ⟨t1, t2, t3⟩ | ⟨t1, t2, t3⟩
       · subst t2
         rw [if_pos (by omega), show (x24 - 1).toNat = ys.length - 1 by omega] at hx30
         exact ⟨_, ⟨fun _ => rfl, fun q => absurd t1 q, fun q => absurd t1 q⟩, hx30.1, hx30.2.1, hfy.trans hx30.2.2⟩
       · have hl9 : ys.length = ch.length + 1 := by rw [t3]; simp
         rw [if_pos (by omega), show (x24 - 1).toNat = ch.length by omega, t3] at hx30
         exact ⟨_, ⟨fun q => absurd q t1, fun _ _ => rfl, fun _ q => absurd t2 q⟩, hx30.1, hx30.2.1, hfy.trans hx30.2.2⟩)
    | (refine ⟨ch, ⟨fun q => ?_, fun _ q => absurd q g1, fun _ _ => rfl⟩, ?_⟩
       · exfalso; rcases hx2 with z | z; omega; exact z.2 q
       · rw [g2]; exact ⟨hi9, hv9, Fr4.rf⟩)
  · refine g_aload_n hC dX0_addSign_8 rfl ?_
    refine g_iload_n hC dX0_addSign_9 rfl ?_
    refine g_VM hC (kX0_begin (gl X) (gD X) (gac X) t a a0 a1 a2 ch n hT9 hO9 hi9 hv9 ⟨by omega, by omega⟩) cvX0_begin lkX0_25 (by assumption) rfl rfl (Nat.le_of_ble_eq_true rfl) (hI.fit (Nat.le_of_ble_eq_true rfl) (Nat.le_of_ble_eq_true rfl) (Nat.le_of_ble_eq_true rfl)) dX0_addSign_10 (fun x10 mem10 hx10 => ?_)
    rcases hx10 with ⟨rfl, g1, g2, g3, g4⟩ | ⟨rfl, g1, g2⟩
    · refine g_if_eq (tgt := 33) hC dX0_addSign_13 (by decide) ⟨by omega, by omega⟩ (fun h13 => ?_) (fun h13 => ?_)
      · refine g_vret hC hI rfl dX0_addSign_33 (Nat.le_of_ble_eq_true rfl) (Nat.le_of_ble_eq_true rfl) ⟨rfl, rfl, rfl, ?_⟩
        first
        | (exfalso; omega)
        | (rcases hys with ⟨t1, t2, t3⟩ | ⟨t1, t2, t3⟩
           · subst t2
             rw [if_pos (by omega), show (x24 - 1).toNat = ys.length - 1 by omega] at hx30
             exact ⟨_, ⟨fun _ => rfl, fun q => absurd t1 q, fun q => absurd t1 q⟩, hx30.1, hx30.2.1, hfy.trans hx30.2.2⟩
           · have hl9 : ys.length = ch.length + 1 := by rw [t3]; simp
             rw [if_pos (by omega), show (x24 - 1).toNat = ch.length by omega, t3] at hx30
             exact ⟨_, ⟨fun q => absurd q t1, fun _ _ => rfl, fun _ q => absurd t2 q⟩, hx30.1, hx30.2.1, hfy.trans hx30.2.2⟩)
        | (refine ⟨ch, ⟨fun q => ?_, fun _ q => absurd q g1, fun _ _ => rfl⟩, ?_⟩
           · exfalso; rcases hx2 with z | z; omega; exact z.2 q
           · rw [g2]; exact ⟨hi9, hv9, Fr4.rf⟩)
      · obtain ⟨ys, hiy, hvy, hfy, hys⟩ : ∃ ys, LnI mem10 a a0 a1 a2 ∧ LnV mem10 a a0 a1 a2 ys ∧ Fr4 mem mem10 a a0 a1 a2 ∧ ((tk ch n ∧ ys = ch ∧ 0 < ch.length) ∨ (¬ tk ch n ∧ ch.length < 20 ∧ ys = ch ++ [(n, [])])) := by
          first
          | (exfalso; omega)
          | exact ⟨_, g2, g3, g4, Or.inr ⟨hx2.elim (fun q => by omega) (fun q => q.2), g1, rfl⟩⟩
          | (have h9 : tk ch n := hx2.elim (fun q => q.2) (fun q => absurd q.1 h5)
             exact ⟨ch, hi9, hv9, Fr4.rf, Or.inl ⟨h9, rfl, tk_pos h9 hp.1⟩⟩)
        have hly := hvy.1
        have h3y := hiy.2.1
        refine g_aload_n hC dX0_addSign_16 rfl ?_
        refine g_getR hC fdX0_12 (by assumption) (by assumption) dX0_addSign_17 ?_
        refine g_aload_n hC dX0_addSign_20 rfl ?_
        refine g_getR hC fdX0_12 (by assumption) (by assumption) dX0_addSign_21 ?_
        refine g_VP hC (kX4_size (gl X) (gD X) (gac X) a a0 a1 a2 hO9) cvX4_size lkX0_18 (by assumption) rfl rfl (Nat.le_of_ble_eq_true rfl) (hI.fit (Nat.le_of_ble_eq_true rfl) (Nat.le_of_ble_eq_true rfl) (Nat.le_of_ble_eq_true rfl)) dX0_addSign_24 (fun x24 hx24 => ?_)
        refine g_iconst hC dX0_addSign_27 ?_
        refine g_isub hC dX0_addSign_28 ?_
        refine g_iload_n hC dX0_addSign_29 rfl ?_
        refine g_VV hC (kX4_addSignAt (gl X) (gD X) (gac X) a a0 a1 a2 ys _ c hO9 hiy hvy ⟨by omega, by omega⟩ hc) cvX4_addSignAt lkX0_32 (by assumption) rfl rfl (Nat.le_of_ble_eq_true rfl) (hI.fit (Nat.le_of_ble_eq_true rfl) (Nat.le_of_ble_eq_true rfl) (Nat.le_of_ble_eq_true rfl)) dX0_addSign_30 (fun mem30 hx30 => ?_)
        refine g_vret hC hI rfl dX0_addSign_33 (Nat.le_of_ble_eq_true rfl) (Nat.le_of_ble_eq_true rfl) ⟨rfl, rfl, rfl, ?_⟩
        first
        | (exfalso; omega)
        | (rcases hys with ⟨t1, t2, t3⟩ | ⟨t1, t2, t3⟩
           · subst t2
             rw [if_pos (by omega), show (x24 - 1).toNat = ys.length - 1 by omega] at hx30
             exact ⟨_, ⟨fun _ => rfl, fun q => absurd t1 q, fun q => absurd t1 q⟩, hx30.1, hx30.2.1, hfy.trans hx30.2.2⟩
           · have hl9 : ys.length = ch.length + 1 := by rw [t3]; simp
             rw [if_pos (by omega), show (x24 - 1).toNat = ch.length by omega, t3] at hx30
             exact ⟨_, ⟨fun q => absurd q t1, fun _ _ => rfl, fun _ q => absurd t2 q⟩, hx30.1, hx30.2.1, hfy.trans hx30.2.2⟩)
        | (refine ⟨ch, ⟨fun q => ?_, fun _ q => absurd q g1, fun _ _ => rfl⟩, ?_⟩
           · exfalso; rcases hx2 with z | z; omega; exact z.2 q
           · rw [g2]; exact ⟨hi9, hv9, Fr4.rf⟩)
    · refine g_if_eq (tgt := 33) hC dX0_addSign_13 (by decide) ⟨by omega, by omega⟩ (fun h13 => ?_) (fun h13 => ?_)
      · refine g_vret hC hI rfl dX0_addSign_33 (Nat.le_of_ble_eq_true rfl) (Nat.le_of_ble_eq_true rfl) ⟨rfl, rfl, rfl, ?_⟩
        first
        | (exfalso; omega)
        | (rcases hys with ⟨t1, t2, t3⟩ | ⟨t1, t2, t3⟩
           · subst t2
             rw [if_pos (by omega), show (x24 - 1).toNat = ys.length - 1 by omega] at hx30
             exact ⟨_, ⟨fun _ => rfl, fun q => absurd t1 q, fun q => absurd t1 q⟩, hx30.1, hx30.2.1, hfy.trans hx30.2.2⟩
           · have hl9 : ys.length = ch.length + 1 := by rw [t3]; simp
             rw [if_pos (by omega), show (x24 - 1).toNat = ch.length by omega, t3] at hx30
             exact ⟨_, ⟨fun q => absurd q t1, fun _ _ => rfl, fun _ q => absurd t2 q⟩, hx30.1, hx30.2.1, hfy.trans hx30.2.2⟩)
        | (refine ⟨ch, ⟨fun q => ?_, fun _ q => absurd q g1, fun _ _ => rfl⟩, ?_⟩
           · exfalso; rcases hx2 with z | z; omega; exact z.2 q
           · rw [g2]; exact ⟨hi9, hv9, Fr4.rf⟩)
      · obtain ⟨ys, hiy, hvy, hfy, hys⟩ : ∃ ys, LnI mem10 a a0 a1 a2 ∧ LnV mem10 a a0 a1 a2 ys ∧ Fr4 mem mem10 a a0 a1 a2 ∧ ((tk ch n ∧ ys = ch ∧ 0 < ch.length) ∨ (¬ tk ch n ∧ ch.length < 20 ∧ ys = ch ++ [(n, [])])) := by
          first
          | (exfalso; omega)
          | exact ⟨_, g2, g3, g4, Or.inr ⟨hx2.elim (fun q => by omega) (fun q => q.2), g1, rfl⟩⟩
          | (have h9 : tk ch n := hx2.elim (fun q => q.2) (fun q => absurd q.1 h5)
             exact ⟨ch, hi9, hv9, Fr4.rf, Or.inl ⟨h9, rfl, tk_pos h9 hp.1⟩⟩)
        have hly := hvy.1
        have h3y := hiy.2.1
        refine g_aload_n hC dX0_addSign_16 rfl ?_
        refine g_getR hC fdX0_12 (by assumption) (by assumption) dX0_addSign_17 ?_
        refine g_aload_n hC dX0_addSign_20 rfl ?_
        refine g_getR hC fdX0_12 (by assumption) (by assumption) dX0_addSign_21 ?_
        refine g_VP hC (kX4_size (gl X) (gD X) (gac X) a a0 a1 a2 hO9) cvX4_size lkX0_18 (by assumption) rfl rfl (Nat.le_of_ble_eq_true rfl) (hI.fit (Nat.le_of_ble_eq_true rfl) (Nat.le_of_ble_eq_true rfl) (Nat.le_of_ble_eq_true rfl)) dX0_addSign_24 (fun x24 hx24 => ?_)
        refine g_iconst hC dX0_addSign_27 ?_
        refine g_isub hC dX0_addSign_28 ?_
        refine g_iload_n hC dX0_addSign_29 rfl ?_
        refine g_VV hC (kX4_addSignAt (gl X) (gD X) (gac X) a a0 a1 a2 ys _ c hO9 hiy hvy ⟨by omega, by omega⟩ hc) cvX4_addSignAt lkX0_32 (by assumption) rfl rfl (Nat.le_of_ble_eq_true rfl) (hI.fit (Nat.le_of_ble_eq_true rfl) (Nat.le_of_ble_eq_true rfl) (Nat.le_of_ble_eq_true rfl)) dX0_addSign_30 (fun mem30 hx30 => ?_)
        refine g_vret hC hI rfl dX0_addSign_33 (Nat.le_of_ble_eq_true rfl) (Nat.le_of_ble_eq_true rfl) ⟨rfl, rfl, rfl, ?_⟩
        first
        | (exfalso; omega)
        | (rcases hys with ⟨t1, t2, t3⟩ | ⟨t1, t2, t3⟩
           · subst t2
             rw [if_pos (by omega), show (x24 - 1).toNat = ys.length - 1 by omega] at hx30
             exact ⟨_, ⟨fun _ => rfl, fun q => absurd t1 q, fun q => absurd t1 q⟩, hx30.1, hx30.2.1, hfy.trans hx30.2.2⟩
           · have hl9 : ys.length = ch.length + 1 := by rw [t3]; simp
             rw [if_pos (by omega), show (x24 - 1).toNat = ch.length by omega, t3] at hx30
             exact ⟨_, ⟨fun q => absurd q t1, fun _ _ => rfl, fun _ q => absurd t2 q⟩, hx30.1, hx30.2.1, hfy.trans hx30.2.2⟩)
        | (refine ⟨ch, ⟨fun q => ?_, fun _ q => absurd q g1, fun _ _ => rfl⟩, ?_⟩
           · exfalso; rcases hx2 with z | z; omega; exact z.2 q
           · rw [g2]; exact ⟨hi9, hv9, Fr4.rf⟩)
set_option maxHeartbeats 4000000 in
set_option maxRecDepth 100000 in
theorem kX0_refusingChange (l : Launch) (D : va_G) (ac : Nat → ClassId) {sh : Nat → Nat × Nat} {rf : Nat → Nat → Option Nat} {mem : Nat → Nat → Int} (t : Nat) (a a0 a1 a2 : Nat) (ch : Lns) (b b0 b1 b2 : Nat) (xs : Lns) (hT : CtO sh rf t a) (hO : LnO sh rf a a0 a1 a2) (hi : LnI mem a a0 a1 a2) (hv : LnV mem a a0 a1 a2 ch) (hOb : LnO sh rf b b0 b1 b2) (hib0 : LnI mem b b0 b1 b2) (hvb : LnV mem b b0 b1 b2 xs) : gMet l D ac mX0_refusingChange 4 [.ref t, .ref b] 0 0 sh rf mem (pP sh rf mem (fun r => r = rfS xs ch 0 xs.length 0)) := by
  refine gMet.mk (by decide) (by intro v hv; simp at hv; (try rcases hv with rfl | rfl) <;> rfl) (Nat.le_of_ble_eq_true rfl) (fun X hC hI => ?_)
  show gG X sh rf mem 0 0 0 [some (.ref t), some (.ref b), none, none, none, none, none] []
  have hO9 := hO
  have hi9 := hi
  have hv9 := hv
  have ho := hO.1
  obtain ⟨hT1, hT2⟩ := hT
  have hlen := hv9.1
  have h30 := hi9.2.1
  have hT9 : CtO sh rf t a := ⟨hT1, hT2⟩
  have hO8 := hOb
  have hi8 := hib0
  have hv8 := hvb
  have bo := hOb.1
  have hblen := hv8.1
  have hb30 := hi8.2.1
  have J10 : ∀ (f k : Nat) (z before : Int), k ≤ ch.length → ch.length < k + f → 0 ≤ z + k → z - k ≤ 30 → (0 : Int) ≤ 0 → (0 : Int) ≤ 0 → 0 ≤ before → before ≤ 9999 → rfS xs (ch.drop k) k z before = rfS xs ch 0 xs.length 0 → ∀ o5 o6, gG X sh rf mem 0 0 10 [some (.ref t), some (.ref b), some (.int (iI z)), some (.int (iI before)), some (.int (iI k)), o5, o6] [] := by
    intro f
    induction f with
    | zero => intro k z before k1 k2; omega
    | succ f ih =>
      intro k z before k1 k2 k3 k4 k5 k6 k7 k8 k9 o5 o6
      have hls := LnV.len hi9 hv9 k
      refine g_iload hC dX0_refusingChange_10 rfl ?_
      refine g_aload_n hC dX0_refusingChange_12 rfl ?_
      refine g_getR hC fdX0_12 (by assumption) (by assumption) dX0_refusingChange_13 ?_
      refine g_VP hC (kX4_size (gl X) (gD X) (gac X) a a0 a1 a2 hO9) cvX4_size lkX0_18 (by assumption) rfl rfl (Nat.le_of_ble_eq_true rfl) (hI.fit (Nat.le_of_ble_eq_true rfl) (Nat.le_of_ble_eq_true rfl) (Nat.le_of_ble_eq_true rfl)) dX0_refusingChange_16 (fun x16 hx16 => ?_)
      obtain rfl : (ch.length : Int) = x16 := by omega
      refine g_icmp_ge (tgt := 104) hC dX0_refusingChange_19 (by decide) ⟨by omega, by omega⟩ ⟨by omega, by omega⟩ (fun h19 => ?_) (fun h19 => ?_)
      · refine g_iconst hC dX0_refusingChange_104 ?_
        refine g_iret hC hI rfl dX0_refusingChange_105 (Nat.le_of_ble_eq_true rfl) (Nat.le_of_ble_eq_true rfl) ⟨rfl, rfl, rfl, _, rfl, ?_⟩
        have q : k = ch.length := by omega
        rw [← k9, q, List.drop_length]
        rfl
      · refine g_aload_n hC dX0_refusingChange_22 rfl ?_
        refine g_getR hC fdX0_12 (by assumption) (by assumption) dX0_refusingChange_23 ?_
        refine g_iload hC dX0_refusingChange_26 rfl ?_
        refine g_VP hC (kX4_numberAt (gl X) (gD X) (gac X) a a0 a1 a2 ch k hO9 hi9 hv9 ⟨by omega, by omega⟩) cvX4_numberAt lkX0_36 (by assumption) rfl rfl (Nat.le_of_ble_eq_true rfl) (hI.fit (Nat.le_of_ble_eq_true rfl) (Nat.le_of_ble_eq_true rfl) (Nat.le_of_ble_eq_true rfl)) dX0_refusingChange_28 (fun x28 hx28 => ?_)
        have e28 : x28 = nu ch k := by
          rw [Int.toNat_natCast] at hx28
          omega
        subst e28
        refine g_istore hC dX0_refusingChange_31 (Nat.le_of_ble_eq_true rfl) ?_
        dsimp only [List.set]
        refine g_aload_n hC dX0_refusingChange_33 rfl ?_
        refine g_iload hC dX0_refusingChange_34 rfl ?_
        refine g_VP hC (kX4_hasNumber (gl X) (gD X) (gac X) b b0 b1 b2 xs (nu ch k) hO8 hi8 hv8 ⟨by omega, by omega⟩) cvX4_hasNumber lkX0_40 (by assumption) rfl rfl (Nat.le_of_ble_eq_true rfl) (hI.fit (Nat.le_of_ble_eq_true rfl) (Nat.le_of_ble_eq_true rfl) (Nat.le_of_ble_eq_true rfl)) dX0_refusingChange_36 (fun x36 hx36 => ?_)
        refine g_istore hC dX0_refusingChange_39 (Nat.le_of_ble_eq_true rfl) ?_
        dsimp only [List.set]
        refine g_aload_n hC dX0_refusingChange_41 rfl ?_
        refine g_iload hC dX0_refusingChange_42 rfl ?_
        refine g_VP hC (kX0_isDeletion (gl X) (gD X) (gac X) t a a0 a1 a2 ch k hT9 hO9 hi9 hv9 ⟨by omega, by omega⟩) cvX0_isDeletion lkX0_43 (by assumption) rfl rfl (Nat.le_of_ble_eq_true rfl) (hI.fit (Nat.le_of_ble_eq_true rfl) (Nat.le_of_ble_eq_true rfl) (Nat.le_of_ble_eq_true rfl)) dX0_refusingChange_44 (fun x44 hx44 => ?_)
        rw [Int.toNat_natCast] at hx44
        refine g_if_eq (tgt := 56) hC dX0_refusingChange_47 (by decide) ⟨by omega, by omega⟩ (fun h47 => ?_) (fun h47 => ?_)
        · refine g_iload hC dX0_refusingChange_56 rfl ?_
          refine g_if_ne (tgt := 64) hC dX0_refusingChange_58 (by decide) ⟨by omega, by omega⟩ (fun h58 => ?_) (fun h58 => ?_)
          · refine g_iload hC dX0_refusingChange_64 rfl ?_
            refine g_iload_n hC dX0_refusingChange_66 rfl ?_
            refine g_icmp_le (tgt := 90) hC dX0_refusingChange_67 (by decide) ⟨by omega, by omega⟩ ⟨by omega, by omega⟩ (fun h67 => ?_) (fun h67 => ?_)
            · refine g_iload hC dX0_refusingChange_90 rfl ?_
              refine g_iconst hC dX0_refusingChange_92 ?_
              refine g_iadd hC dX0_refusingChange_93 ?_
              refine g_iret hC hI rfl dX0_refusingChange_94 (Nat.le_of_ble_eq_true rfl) (Nat.le_of_ble_eq_true rfl) ⟨rfl, rfl, rfl, _, rfl, ?_⟩
              rw [← k9]
              by_cases dl : sg ch k = [] <;> by_cases th : nu xs (plc xs (nu ch k)) = nu ch k <;> (try simp only [dl, th, ne_eq, not_true_eq_false, not_false_eq_true, and_true, and_false, or_false, false_or] at hx44) <;> (try simp only [dl, th, ne_eq, not_true_eq_false, not_false_eq_true, and_true, and_false, or_false, false_or] at hx36) <;> (try simp only [dl, th, ne_eq, not_true_eq_false, not_false_eq_true, and_true, and_false, or_false, false_or] at hx73) <;> first | (exfalso; omega) | (rw [rfS_dn (by omega) dl th]) | (rw [rfS_d (by omega) dl th, if_pos (by omega)]) | (rw [rfS_t (by omega) dl th, if_pos (by omega)]) | (rw [rfS_n (by omega) dl th, if_pos (by omega)])
            · refine g_aload_n hC dX0_refusingChange_70 rfl ?_
              refine g_iload hC dX0_refusingChange_71 rfl ?_
              refine g_VP hC (kX0_isDeletion (gl X) (gD X) (gac X) t a a0 a1 a2 ch k hT9 hO9 hi9 hv9 ⟨by omega, by omega⟩) cvX0_isDeletion lkX0_43 (by assumption) rfl rfl (Nat.le_of_ble_eq_true rfl) (hI.fit (Nat.le_of_ble_eq_true rfl) (Nat.le_of_ble_eq_true rfl) (Nat.le_of_ble_eq_true rfl)) dX0_refusingChange_73 (fun x73 hx73 => ?_)
              rw [Int.toNat_natCast] at hx73
              refine g_if_eq (tgt := 84) hC dX0_refusingChange_76 (by decide) ⟨by omega, by omega⟩ (fun h76 => ?_) (fun h76 => ?_)
              · refine g_iload_n hC dX0_refusingChange_84 rfl ?_
                refine g_bipush hC dX0_refusingChange_85 (by decide +kernel) ?_
                refine g_icmp_le (tgt := 95) hC dX0_refusingChange_87 (by decide) ⟨by omega, by omega⟩ ⟨by omega, by omega⟩ (fun h87 => ?_) (fun h87 => ?_)
                · refine g_iload hC dX0_refusingChange_95 rfl ?_
                  refine g_istore_n hC 3 rfl dX0_refusingChange_97 (Nat.le_of_ble_eq_true rfl) ?_
                  dsimp only [List.set]
                  refine g_iinc hC dX0_refusingChange_98 rfl ?_
                  dsimp only [List.set]
                  refine g_goto (tgt := 10) hC dX0_refusingChange_101 (by decide) ?_
                  first
                  | exact J10 (ch.length + 1) 0 xs.length 0 (Nat.zero_le _) (by omega) (by omega) (by omega) (by omega) (by omega) (by omega) (by omega) rfl _ _
                  | (refine ih (k + 1) _ (nu ch k) (by omega) (by omega) (by omega) (by omega) (by omega) (by omega) (by omega) (by omega) ?_ _ _
                     by_cases dl : sg ch k = [] <;> by_cases th : nu xs (plc xs (nu ch k)) = nu ch k <;> simp only [dl, th, ne_eq, not_true_eq_false, not_false_eq_true, and_true, and_false, or_false, false_or] at hx44 hx73 hx36 <;> first | (exfalso; omega) | (rw [rfS_d (by omega) dl th, if_neg (by omega)] at k9; exact k9) | (rw [rfS_t (by omega) dl th, if_neg (by omega)] at k9; exact k9) | (rw [rfS_n (by omega) dl th, if_neg (by omega)] at k9; exact k9))
                · refine g_iload hC dX0_refusingChange_90 rfl ?_
                  refine g_iconst hC dX0_refusingChange_92 ?_
                  refine g_iadd hC dX0_refusingChange_93 ?_
                  refine g_iret hC hI rfl dX0_refusingChange_94 (Nat.le_of_ble_eq_true rfl) (Nat.le_of_ble_eq_true rfl) ⟨rfl, rfl, rfl, _, rfl, ?_⟩
                  rw [← k9]
                  by_cases dl : sg ch k = [] <;> by_cases th : nu xs (plc xs (nu ch k)) = nu ch k <;> (try simp only [dl, th, ne_eq, not_true_eq_false, not_false_eq_true, and_true, and_false, or_false, false_or] at hx44) <;> (try simp only [dl, th, ne_eq, not_true_eq_false, not_false_eq_true, and_true, and_false, or_false, false_or] at hx36) <;> (try simp only [dl, th, ne_eq, not_true_eq_false, not_false_eq_true, and_true, and_false, or_false, false_or] at hx73) <;> first | (exfalso; omega) | (rw [rfS_dn (by omega) dl th]) | (rw [rfS_d (by omega) dl th, if_pos (by omega)]) | (rw [rfS_t (by omega) dl th, if_pos (by omega)]) | (rw [rfS_n (by omega) dl th, if_pos (by omega)])
              · refine g_iload hC dX0_refusingChange_79 rfl ?_
                refine g_if_eq (tgt := 90) hC dX0_refusingChange_81 (by decide) ⟨by omega, by omega⟩ (fun h81 => ?_) (fun h81 => ?_)
                · refine g_iload hC dX0_refusingChange_90 rfl ?_
                  refine g_iconst hC dX0_refusingChange_92 ?_
                  refine g_iadd hC dX0_refusingChange_93 ?_
                  refine g_iret hC hI rfl dX0_refusingChange_94 (Nat.le_of_ble_eq_true rfl) (Nat.le_of_ble_eq_true rfl) ⟨rfl, rfl, rfl, _, rfl, ?_⟩
                  rw [← k9]
                  by_cases dl : sg ch k = [] <;> by_cases th : nu xs (plc xs (nu ch k)) = nu ch k <;> (try simp only [dl, th, ne_eq, not_true_eq_false, not_false_eq_true, and_true, and_false, or_false, false_or] at hx44) <;> (try simp only [dl, th, ne_eq, not_true_eq_false, not_false_eq_true, and_true, and_false, or_false, false_or] at hx36) <;> (try simp only [dl, th, ne_eq, not_true_eq_false, not_false_eq_true, and_true, and_false, or_false, false_or] at hx73) <;> first | (exfalso; omega) | (rw [rfS_dn (by omega) dl th]) | (rw [rfS_d (by omega) dl th, if_pos (by omega)]) | (rw [rfS_t (by omega) dl th, if_pos (by omega)]) | (rw [rfS_n (by omega) dl th, if_pos (by omega)])
                · refine g_iload_n hC dX0_refusingChange_84 rfl ?_
                  refine g_bipush hC dX0_refusingChange_85 (by decide +kernel) ?_
                  refine g_icmp_le (tgt := 95) hC dX0_refusingChange_87 (by decide) ⟨by omega, by omega⟩ ⟨by omega, by omega⟩ (fun h87 => ?_) (fun h87 => ?_)
                  · refine g_iload hC dX0_refusingChange_95 rfl ?_
                    refine g_istore_n hC 3 rfl dX0_refusingChange_97 (Nat.le_of_ble_eq_true rfl) ?_
                    dsimp only [List.set]
                    refine g_iinc hC dX0_refusingChange_98 rfl ?_
                    dsimp only [List.set]
                    refine g_goto (tgt := 10) hC dX0_refusingChange_101 (by decide) ?_
                    first
                    | exact J10 (ch.length + 1) 0 xs.length 0 (Nat.zero_le _) (by omega) (by omega) (by omega) (by omega) (by omega) (by omega) (by omega) rfl _ _
                    | (refine ih (k + 1) _ (nu ch k) (by omega) (by omega) (by omega) (by omega) (by omega) (by omega) (by omega) (by omega) ?_ _ _
                       by_cases dl : sg ch k = [] <;> by_cases th : nu xs (plc xs (nu ch k)) = nu ch k <;> simp only [dl, th, ne_eq, not_true_eq_false, not_false_eq_true, and_true, and_false, or_false, false_or] at hx44 hx73 hx36 <;> first | (exfalso; omega) | (rw [rfS_d (by omega) dl th, if_neg (by omega)] at k9; exact k9) | (rw [rfS_t (by omega) dl th, if_neg (by omega)] at k9; exact k9) | (rw [rfS_n (by omega) dl th, if_neg (by omega)] at k9; exact k9))
                  · refine g_iload hC dX0_refusingChange_90 rfl ?_
                    refine g_iconst hC dX0_refusingChange_92 ?_
                    refine g_iadd hC dX0_refusingChange_93 ?_
                    refine g_iret hC hI rfl dX0_refusingChange_94 (Nat.le_of_ble_eq_true rfl) (Nat.le_of_ble_eq_true rfl) ⟨rfl, rfl, rfl, _, rfl, ?_⟩
                    rw [← k9]
                    by_cases dl : sg ch k = [] <;> by_cases th : nu xs (plc xs (nu ch k)) = nu ch k <;> (try simp only [dl, th, ne_eq, not_true_eq_false, not_false_eq_true, and_true, and_false, or_false, false_or] at hx44) <;> (try simp only [dl, th, ne_eq, not_true_eq_false, not_false_eq_true, and_true, and_false, or_false, false_or] at hx36) <;> (try simp only [dl, th, ne_eq, not_true_eq_false, not_false_eq_true, and_true, and_false, or_false, false_or] at hx73) <;> first | (exfalso; omega) | (rw [rfS_dn (by omega) dl th]) | (rw [rfS_d (by omega) dl th, if_pos (by omega)]) | (rw [rfS_t (by omega) dl th, if_pos (by omega)]) | (rw [rfS_n (by omega) dl th, if_pos (by omega)])
          · refine g_iinc hC dX0_refusingChange_61 rfl ?_
            dsimp only [List.set]
            refine g_iload hC dX0_refusingChange_64 rfl ?_
            refine g_iload_n hC dX0_refusingChange_66 rfl ?_
            refine g_icmp_le (tgt := 90) hC dX0_refusingChange_67 (by decide) ⟨by omega, by omega⟩ ⟨by omega, by omega⟩ (fun h67 => ?_) (fun h67 => ?_)
            · refine g_iload hC dX0_refusingChange_90 rfl ?_
              refine g_iconst hC dX0_refusingChange_92 ?_
              refine g_iadd hC dX0_refusingChange_93 ?_
              refine g_iret hC hI rfl dX0_refusingChange_94 (Nat.le_of_ble_eq_true rfl) (Nat.le_of_ble_eq_true rfl) ⟨rfl, rfl, rfl, _, rfl, ?_⟩
              rw [← k9]
              by_cases dl : sg ch k = [] <;> by_cases th : nu xs (plc xs (nu ch k)) = nu ch k <;> (try simp only [dl, th, ne_eq, not_true_eq_false, not_false_eq_true, and_true, and_false, or_false, false_or] at hx44) <;> (try simp only [dl, th, ne_eq, not_true_eq_false, not_false_eq_true, and_true, and_false, or_false, false_or] at hx36) <;> (try simp only [dl, th, ne_eq, not_true_eq_false, not_false_eq_true, and_true, and_false, or_false, false_or] at hx73) <;> first | (exfalso; omega) | (rw [rfS_dn (by omega) dl th]) | (rw [rfS_d (by omega) dl th, if_pos (by omega)]) | (rw [rfS_t (by omega) dl th, if_pos (by omega)]) | (rw [rfS_n (by omega) dl th, if_pos (by omega)])
            · refine g_aload_n hC dX0_refusingChange_70 rfl ?_
              refine g_iload hC dX0_refusingChange_71 rfl ?_
              refine g_VP hC (kX0_isDeletion (gl X) (gD X) (gac X) t a a0 a1 a2 ch k hT9 hO9 hi9 hv9 ⟨by omega, by omega⟩) cvX0_isDeletion lkX0_43 (by assumption) rfl rfl (Nat.le_of_ble_eq_true rfl) (hI.fit (Nat.le_of_ble_eq_true rfl) (Nat.le_of_ble_eq_true rfl) (Nat.le_of_ble_eq_true rfl)) dX0_refusingChange_73 (fun x73 hx73 => ?_)
              rw [Int.toNat_natCast] at hx73
              refine g_if_eq (tgt := 84) hC dX0_refusingChange_76 (by decide) ⟨by omega, by omega⟩ (fun h76 => ?_) (fun h76 => ?_)
              · refine g_iload_n hC dX0_refusingChange_84 rfl ?_
                refine g_bipush hC dX0_refusingChange_85 (by decide +kernel) ?_
                refine g_icmp_le (tgt := 95) hC dX0_refusingChange_87 (by decide) ⟨by omega, by omega⟩ ⟨by omega, by omega⟩ (fun h87 => ?_) (fun h87 => ?_)
                · refine g_iload hC dX0_refusingChange_95 rfl ?_
                  refine g_istore_n hC 3 rfl dX0_refusingChange_97 (Nat.le_of_ble_eq_true rfl) ?_
                  dsimp only [List.set]
                  refine g_iinc hC dX0_refusingChange_98 rfl ?_
                  dsimp only [List.set]
                  refine g_goto (tgt := 10) hC dX0_refusingChange_101 (by decide) ?_
                  first
                  | exact J10 (ch.length + 1) 0 xs.length 0 (Nat.zero_le _) (by omega) (by omega) (by omega) (by omega) (by omega) (by omega) (by omega) rfl _ _
                  | (refine ih (k + 1) _ (nu ch k) (by omega) (by omega) (by omega) (by omega) (by omega) (by omega) (by omega) (by omega) ?_ _ _
                     by_cases dl : sg ch k = [] <;> by_cases th : nu xs (plc xs (nu ch k)) = nu ch k <;> simp only [dl, th, ne_eq, not_true_eq_false, not_false_eq_true, and_true, and_false, or_false, false_or] at hx44 hx73 hx36 <;> first | (exfalso; omega) | (rw [rfS_d (by omega) dl th, if_neg (by omega)] at k9; exact k9) | (rw [rfS_t (by omega) dl th, if_neg (by omega)] at k9; exact k9) | (rw [rfS_n (by omega) dl th, if_neg (by omega)] at k9; exact k9))
                · refine g_iload hC dX0_refusingChange_90 rfl ?_
                  refine g_iconst hC dX0_refusingChange_92 ?_
                  refine g_iadd hC dX0_refusingChange_93 ?_
                  refine g_iret hC hI rfl dX0_refusingChange_94 (Nat.le_of_ble_eq_true rfl) (Nat.le_of_ble_eq_true rfl) ⟨rfl, rfl, rfl, _, rfl, ?_⟩
                  rw [← k9]
                  by_cases dl : sg ch k = [] <;> by_cases th : nu xs (plc xs (nu ch k)) = nu ch k <;> (try simp only [dl, th, ne_eq, not_true_eq_false, not_false_eq_true, and_true, and_false, or_false, false_or] at hx44) <;> (try simp only [dl, th, ne_eq, not_true_eq_false, not_false_eq_true, and_true, and_false, or_false, false_or] at hx36) <;> (try simp only [dl, th, ne_eq, not_true_eq_false, not_false_eq_true, and_true, and_false, or_false, false_or] at hx73) <;> first | (exfalso; omega) | (rw [rfS_dn (by omega) dl th]) | (rw [rfS_d (by omega) dl th, if_pos (by omega)]) | (rw [rfS_t (by omega) dl th, if_pos (by omega)]) | (rw [rfS_n (by omega) dl th, if_pos (by omega)])
              · refine g_iload hC dX0_refusingChange_79 rfl ?_
                refine g_if_eq (tgt := 90) hC dX0_refusingChange_81 (by decide) ⟨by omega, by omega⟩ (fun h81 => ?_) (fun h81 => ?_)
                · refine g_iload hC dX0_refusingChange_90 rfl ?_
                  refine g_iconst hC dX0_refusingChange_92 ?_
                  refine g_iadd hC dX0_refusingChange_93 ?_
                  refine g_iret hC hI rfl dX0_refusingChange_94 (Nat.le_of_ble_eq_true rfl) (Nat.le_of_ble_eq_true rfl) ⟨rfl, rfl, rfl, _, rfl, ?_⟩
                  rw [← k9]
                  by_cases dl : sg ch k = [] <;> by_cases th : nu xs (plc xs (nu ch k)) = nu ch k <;> (try simp only [dl, th, ne_eq, not_true_eq_false, not_false_eq_true, and_true, and_false, or_false, false_or] at hx44) <;> (try simp only [dl, th, ne_eq, not_true_eq_false, not_false_eq_true, and_true, and_false, or_false, false_or] at hx36) <;> (try simp only [dl, th, ne_eq, not_true_eq_false, not_false_eq_true, and_true, and_false, or_false, false_or] at hx73) <;> first | (exfalso; omega) | (rw [rfS_dn (by omega) dl th]) | (rw [rfS_d (by omega) dl th, if_pos (by omega)]) | (rw [rfS_t (by omega) dl th, if_pos (by omega)]) | (rw [rfS_n (by omega) dl th, if_pos (by omega)])
                · refine g_iload_n hC dX0_refusingChange_84 rfl ?_
                  refine g_bipush hC dX0_refusingChange_85 (by decide +kernel) ?_
                  refine g_icmp_le (tgt := 95) hC dX0_refusingChange_87 (by decide) ⟨by omega, by omega⟩ ⟨by omega, by omega⟩ (fun h87 => ?_) (fun h87 => ?_)
                  · refine g_iload hC dX0_refusingChange_95 rfl ?_
                    refine g_istore_n hC 3 rfl dX0_refusingChange_97 (Nat.le_of_ble_eq_true rfl) ?_
                    dsimp only [List.set]
                    refine g_iinc hC dX0_refusingChange_98 rfl ?_
                    dsimp only [List.set]
                    refine g_goto (tgt := 10) hC dX0_refusingChange_101 (by decide) ?_
                    first
                    | exact J10 (ch.length + 1) 0 xs.length 0 (Nat.zero_le _) (by omega) (by omega) (by omega) (by omega) (by omega) (by omega) (by omega) rfl _ _
                    | (refine ih (k + 1) _ (nu ch k) (by omega) (by omega) (by omega) (by omega) (by omega) (by omega) (by omega) (by omega) ?_ _ _
                       by_cases dl : sg ch k = [] <;> by_cases th : nu xs (plc xs (nu ch k)) = nu ch k <;> simp only [dl, th, ne_eq, not_true_eq_false, not_false_eq_true, and_true, and_false, or_false, false_or] at hx44 hx73 hx36 <;> first | (exfalso; omega) | (rw [rfS_d (by omega) dl th, if_neg (by omega)] at k9; exact k9) | (rw [rfS_t (by omega) dl th, if_neg (by omega)] at k9; exact k9) | (rw [rfS_n (by omega) dl th, if_neg (by omega)] at k9; exact k9))
                  · refine g_iload hC dX0_refusingChange_90 rfl ?_
                    refine g_iconst hC dX0_refusingChange_92 ?_
                    refine g_iadd hC dX0_refusingChange_93 ?_
                    refine g_iret hC hI rfl dX0_refusingChange_94 (Nat.le_of_ble_eq_true rfl) (Nat.le_of_ble_eq_true rfl) ⟨rfl, rfl, rfl, _, rfl, ?_⟩
                    rw [← k9]
                    by_cases dl : sg ch k = [] <;> by_cases th : nu xs (plc xs (nu ch k)) = nu ch k <;> (try simp only [dl, th, ne_eq, not_true_eq_false, not_false_eq_true, and_true, and_false, or_false, false_or] at hx44) <;> (try simp only [dl, th, ne_eq, not_true_eq_false, not_false_eq_true, and_true, and_false, or_false, false_or] at hx36) <;> (try simp only [dl, th, ne_eq, not_true_eq_false, not_false_eq_true, and_true, and_false, or_false, false_or] at hx73) <;> first | (exfalso; omega) | (rw [rfS_dn (by omega) dl th]) | (rw [rfS_d (by omega) dl th, if_pos (by omega)]) | (rw [rfS_t (by omega) dl th, if_pos (by omega)]) | (rw [rfS_n (by omega) dl th, if_pos (by omega)])
        · refine g_iinc hC dX0_refusingChange_50 rfl ?_
          dsimp only [List.set]
          refine g_goto (tgt := 64) hC dX0_refusingChange_53 (by decide) ?_
          refine g_iload hC dX0_refusingChange_64 rfl ?_
          refine g_iload_n hC dX0_refusingChange_66 rfl ?_
          refine g_icmp_le (tgt := 90) hC dX0_refusingChange_67 (by decide) ⟨by omega, by omega⟩ ⟨by omega, by omega⟩ (fun h67 => ?_) (fun h67 => ?_)
          · refine g_iload hC dX0_refusingChange_90 rfl ?_
            refine g_iconst hC dX0_refusingChange_92 ?_
            refine g_iadd hC dX0_refusingChange_93 ?_
            refine g_iret hC hI rfl dX0_refusingChange_94 (Nat.le_of_ble_eq_true rfl) (Nat.le_of_ble_eq_true rfl) ⟨rfl, rfl, rfl, _, rfl, ?_⟩
            rw [← k9]
            by_cases dl : sg ch k = [] <;> by_cases th : nu xs (plc xs (nu ch k)) = nu ch k <;> (try simp only [dl, th, ne_eq, not_true_eq_false, not_false_eq_true, and_true, and_false, or_false, false_or] at hx44) <;> (try simp only [dl, th, ne_eq, not_true_eq_false, not_false_eq_true, and_true, and_false, or_false, false_or] at hx36) <;> (try simp only [dl, th, ne_eq, not_true_eq_false, not_false_eq_true, and_true, and_false, or_false, false_or] at hx73) <;> first | (exfalso; omega) | (rw [rfS_dn (by omega) dl th]) | (rw [rfS_d (by omega) dl th, if_pos (by omega)]) | (rw [rfS_t (by omega) dl th, if_pos (by omega)]) | (rw [rfS_n (by omega) dl th, if_pos (by omega)])
          · refine g_aload_n hC dX0_refusingChange_70 rfl ?_
            refine g_iload hC dX0_refusingChange_71 rfl ?_
            refine g_VP hC (kX0_isDeletion (gl X) (gD X) (gac X) t a a0 a1 a2 ch k hT9 hO9 hi9 hv9 ⟨by omega, by omega⟩) cvX0_isDeletion lkX0_43 (by assumption) rfl rfl (Nat.le_of_ble_eq_true rfl) (hI.fit (Nat.le_of_ble_eq_true rfl) (Nat.le_of_ble_eq_true rfl) (Nat.le_of_ble_eq_true rfl)) dX0_refusingChange_73 (fun x73 hx73 => ?_)
            rw [Int.toNat_natCast] at hx73
            refine g_if_eq (tgt := 84) hC dX0_refusingChange_76 (by decide) ⟨by omega, by omega⟩ (fun h76 => ?_) (fun h76 => ?_)
            · refine g_iload_n hC dX0_refusingChange_84 rfl ?_
              refine g_bipush hC dX0_refusingChange_85 (by decide +kernel) ?_
              refine g_icmp_le (tgt := 95) hC dX0_refusingChange_87 (by decide) ⟨by omega, by omega⟩ ⟨by omega, by omega⟩ (fun h87 => ?_) (fun h87 => ?_)
              · refine g_iload hC dX0_refusingChange_95 rfl ?_
                refine g_istore_n hC 3 rfl dX0_refusingChange_97 (Nat.le_of_ble_eq_true rfl) ?_
                dsimp only [List.set]
                refine g_iinc hC dX0_refusingChange_98 rfl ?_
                dsimp only [List.set]
                refine g_goto (tgt := 10) hC dX0_refusingChange_101 (by decide) ?_
                first
                | exact J10 (ch.length + 1) 0 xs.length 0 (Nat.zero_le _) (by omega) (by omega) (by omega) (by omega) (by omega) (by omega) (by omega) rfl _ _
                | (refine ih (k + 1) _ (nu ch k) (by omega) (by omega) (by omega) (by omega) (by omega) (by omega) (by omega) (by omega) ?_ _ _
                   by_cases dl : sg ch k = [] <;> by_cases th : nu xs (plc xs (nu ch k)) = nu ch k <;> simp only [dl, th, ne_eq, not_true_eq_false, not_false_eq_true, and_true, and_false, or_false, false_or] at hx44 hx73 hx36 <;> first | (exfalso; omega) | (rw [rfS_d (by omega) dl th, if_neg (by omega)] at k9; exact k9) | (rw [rfS_t (by omega) dl th, if_neg (by omega)] at k9; exact k9) | (rw [rfS_n (by omega) dl th, if_neg (by omega)] at k9; exact k9))
              · refine g_iload hC dX0_refusingChange_90 rfl ?_
                refine g_iconst hC dX0_refusingChange_92 ?_
                refine g_iadd hC dX0_refusingChange_93 ?_
                refine g_iret hC hI rfl dX0_refusingChange_94 (Nat.le_of_ble_eq_true rfl) (Nat.le_of_ble_eq_true rfl) ⟨rfl, rfl, rfl, _, rfl, ?_⟩
                rw [← k9]
                by_cases dl : sg ch k = [] <;> by_cases th : nu xs (plc xs (nu ch k)) = nu ch k <;> (try simp only [dl, th, ne_eq, not_true_eq_false, not_false_eq_true, and_true, and_false, or_false, false_or] at hx44) <;> (try simp only [dl, th, ne_eq, not_true_eq_false, not_false_eq_true, and_true, and_false, or_false, false_or] at hx36) <;> (try simp only [dl, th, ne_eq, not_true_eq_false, not_false_eq_true, and_true, and_false, or_false, false_or] at hx73) <;> first | (exfalso; omega) | (rw [rfS_dn (by omega) dl th]) | (rw [rfS_d (by omega) dl th, if_pos (by omega)]) | (rw [rfS_t (by omega) dl th, if_pos (by omega)]) | (rw [rfS_n (by omega) dl th, if_pos (by omega)])
            · refine g_iload hC dX0_refusingChange_79 rfl ?_
              refine g_if_eq (tgt := 90) hC dX0_refusingChange_81 (by decide) ⟨by omega, by omega⟩ (fun h81 => ?_) (fun h81 => ?_)
              · refine g_iload hC dX0_refusingChange_90 rfl ?_
                refine g_iconst hC dX0_refusingChange_92 ?_
                refine g_iadd hC dX0_refusingChange_93 ?_
                refine g_iret hC hI rfl dX0_refusingChange_94 (Nat.le_of_ble_eq_true rfl) (Nat.le_of_ble_eq_true rfl) ⟨rfl, rfl, rfl, _, rfl, ?_⟩
                rw [← k9]
                by_cases dl : sg ch k = [] <;> by_cases th : nu xs (plc xs (nu ch k)) = nu ch k <;> (try simp only [dl, th, ne_eq, not_true_eq_false, not_false_eq_true, and_true, and_false, or_false, false_or] at hx44) <;> (try simp only [dl, th, ne_eq, not_true_eq_false, not_false_eq_true, and_true, and_false, or_false, false_or] at hx36) <;> (try simp only [dl, th, ne_eq, not_true_eq_false, not_false_eq_true, and_true, and_false, or_false, false_or] at hx73) <;> first | (exfalso; omega) | (rw [rfS_dn (by omega) dl th]) | (rw [rfS_d (by omega) dl th, if_pos (by omega)]) | (rw [rfS_t (by omega) dl th, if_pos (by omega)]) | (rw [rfS_n (by omega) dl th, if_pos (by omega)])
              · refine g_iload_n hC dX0_refusingChange_84 rfl ?_
                refine g_bipush hC dX0_refusingChange_85 (by decide +kernel) ?_
                refine g_icmp_le (tgt := 95) hC dX0_refusingChange_87 (by decide) ⟨by omega, by omega⟩ ⟨by omega, by omega⟩ (fun h87 => ?_) (fun h87 => ?_)
                · refine g_iload hC dX0_refusingChange_95 rfl ?_
                  refine g_istore_n hC 3 rfl dX0_refusingChange_97 (Nat.le_of_ble_eq_true rfl) ?_
                  dsimp only [List.set]
                  refine g_iinc hC dX0_refusingChange_98 rfl ?_
                  dsimp only [List.set]
                  refine g_goto (tgt := 10) hC dX0_refusingChange_101 (by decide) ?_
                  first
                  | exact J10 (ch.length + 1) 0 xs.length 0 (Nat.zero_le _) (by omega) (by omega) (by omega) (by omega) (by omega) (by omega) (by omega) rfl _ _
                  | (refine ih (k + 1) _ (nu ch k) (by omega) (by omega) (by omega) (by omega) (by omega) (by omega) (by omega) (by omega) ?_ _ _
                     by_cases dl : sg ch k = [] <;> by_cases th : nu xs (plc xs (nu ch k)) = nu ch k <;> simp only [dl, th, ne_eq, not_true_eq_false, not_false_eq_true, and_true, and_false, or_false, false_or] at hx44 hx73 hx36 <;> first | (exfalso; omega) | (rw [rfS_d (by omega) dl th, if_neg (by omega)] at k9; exact k9) | (rw [rfS_t (by omega) dl th, if_neg (by omega)] at k9; exact k9) | (rw [rfS_n (by omega) dl th, if_neg (by omega)] at k9; exact k9))
                · refine g_iload hC dX0_refusingChange_90 rfl ?_
                  refine g_iconst hC dX0_refusingChange_92 ?_
                  refine g_iadd hC dX0_refusingChange_93 ?_
                  refine g_iret hC hI rfl dX0_refusingChange_94 (Nat.le_of_ble_eq_true rfl) (Nat.le_of_ble_eq_true rfl) ⟨rfl, rfl, rfl, _, rfl, ?_⟩
                  rw [← k9]
                  by_cases dl : sg ch k = [] <;> by_cases th : nu xs (plc xs (nu ch k)) = nu ch k <;> (try simp only [dl, th, ne_eq, not_true_eq_false, not_false_eq_true, and_true, and_false, or_false, false_or] at hx44) <;> (try simp only [dl, th, ne_eq, not_true_eq_false, not_false_eq_true, and_true, and_false, or_false, false_or] at hx36) <;> (try simp only [dl, th, ne_eq, not_true_eq_false, not_false_eq_true, and_true, and_false, or_false, false_or] at hx73) <;> first | (exfalso; omega) | (rw [rfS_dn (by omega) dl th]) | (rw [rfS_d (by omega) dl th, if_pos (by omega)]) | (rw [rfS_t (by omega) dl th, if_pos (by omega)]) | (rw [rfS_n (by omega) dl th, if_pos (by omega)])
  refine g_aload_n hC dX0_refusingChange_0 rfl ?_
  refine g_VP hC (kX4_size (gl X) (gD X) (gac X) b b0 b1 b2 hO8) cvX4_size lkX0_18 (by assumption) rfl rfl (Nat.le_of_ble_eq_true rfl) (hI.fit (Nat.le_of_ble_eq_true rfl) (Nat.le_of_ble_eq_true rfl) (Nat.le_of_ble_eq_true rfl)) dX0_refusingChange_1 (fun x1 hx1 => ?_)
  obtain rfl : (xs.length : Int) = x1 := by omega
  refine g_istore_n hC 2 rfl dX0_refusingChange_4 (Nat.le_of_ble_eq_true rfl) ?_
  dsimp only [List.set]
  refine g_iconst hC dX0_refusingChange_5 ?_
  refine g_istore_n hC 3 rfl dX0_refusingChange_6 (Nat.le_of_ble_eq_true rfl) ?_
  dsimp only [List.set]
  refine g_iconst hC dX0_refusingChange_7 ?_
  refine g_istore hC dX0_refusingChange_8 (Nat.le_of_ble_eq_true rfl) ?_
  dsimp only [List.set]
  first
  | exact J10 (ch.length + 1) 0 xs.length 0 (Nat.zero_le _) (by omega) (by omega) (by omega) (by omega) (by omega) (by omega) (by omega) rfl _ _
  | (refine ih (k + 1) _ (nu ch k) (by omega) (by omega) (by omega) (by omega) (by omega) (by omega) (by omega) (by omega) ?_ _ _
     by_cases dl : sg ch k = [] <;> by_cases th : nu xs (plc xs (nu ch k)) = nu ch k <;> simp only [dl, th, ne_eq, not_true_eq_false, not_false_eq_true, and_true, and_false, or_false, false_or] at hx44 hx73 hx36 <;> first | (exfalso; omega) | (rw [rfS_d (by omega) dl th, if_neg (by omega)] at k9; exact k9) | (rw [rfS_t (by omega) dl th, if_neg (by omega)] at k9; exact k9) | (rw [rfS_n (by omega) dl th, if_neg (by omega)] at k9; exact k9))
theorem upS_step {ys ch : Lns} {k : Nat} (h : k < ch.length) : upS ys (ch.drop k) = upS (if sg ch k = [] then (if nu ys (plc ys (nu ch k)) = nu ch k then ys.eraseIdx (plc ys (nu ch k)) else ys) else lnPut ys (nu ch k) (sg ch k)) (ch.drop (k + 1)) := by
  rw [drop_ln h, upS]
set_option maxHeartbeats 4000000 in
set_option maxRecDepth 100000 in
theorem kX0_applyTo (l : Launch) (D : va_G) (ac : Nat → ClassId) {sh : Nat → Nat × Nat} {rf : Nat → Nat → Option Nat} {mem : Nat → Nat → Int} (t : Nat) (a a0 a1 a2 : Nat) (ch : Lns) (b b0 b1 b2 : Nat) (xs : Lns) (hT : CtO sh rf t a) (hO : LnO sh rf a a0 a1 a2) (hi : LnI mem a a0 a1 a2) (hv : LnV mem a a0 a1 a2 ch) (hOb : LnO sh rf b b0 b1 b2) (hib0 : LnI mem b b0 b1 b2) (hvb : LnV mem b b0 b1 b2 xs) (hnn : ∀ i, i < ch.length → 1 ≤ nu ch i) (hd : LnD b b0 b1 b2 a a0 a1 a2) : gMet l D ac mX0_applyTo 4 [.ref t, .ref b] 0 0 sh rf mem (pV sh rf (fun mem1 => LnI mem1 b b0 b1 b2 ∧ LnV mem1 b b0 b1 b2 (upS xs ch) ∧ Fr4 mem mem1 b b0 b1 b2)) := by
  refine gMet.mk (by decide) (by intro v hv; simp at hv; (try rcases hv with rfl | rfl) <;> rfl) (Nat.le_of_ble_eq_true rfl) (fun X hC hI => ?_)
  show gG X sh rf mem 0 0 0 [some (.ref t), some (.ref b), none] []
  have hO9 := hO
  have hi9 := hi
  have hv9 := hv
  have ho := hO.1
  obtain ⟨hT1, hT2⟩ := hT
  have hlen := hv9.1
  have h30 := hi9.2.1
  have hT9 : CtO sh rf t a := ⟨hT1, hT2⟩
  have hO8 := hOb
  have hi8 := hib0
  have hv8 := hvb
  have bo := hOb.1
  have hblen := hv8.1
  have hb30 := hi8.2.1
  have J2 : ∀ (f k : Nat) (m1 : Nat → Nat → Int) (ys : Lns), k ≤ ch.length → ch.length < k + f → LnI m1 b b0 b1 b2 → LnV m1 b b0 b1 b2 ys → Fr4 mem m1 b b0 b1 b2 → upS ys (ch.drop k) = upS xs ch → gG X sh rf m1 0 0 2 [some (.ref t), some (.ref b), some (.int (iI k))] [] := by
    intro f
    induction f with
    | zero => intro k m1 ys k1 k2; omega
    | succ f ih =>
      intro k m1 ys k1 k2 k3 k4 k5 k6
      have hfr := LnFr (ys := ch) hO8 hO9 hd k5
      have hia := LnI.fr hfr hi9
      have hva := LnV.fr hfr hv9
      have hls := LnV.len hi9 hv9 k
      refine g_iload_n hC dX0_applyTo_2 rfl ?_
      refine g_aload_n hC dX0_applyTo_3 rfl ?_
      refine g_getR hC fdX0_12 (by assumption) (by assumption) dX0_applyTo_4 ?_
      refine g_VP hC (kX4_size (gl X) (gD X) (gac X) a a0 a1 a2 hO9) cvX4_size lkX0_18 (by assumption) rfl rfl (Nat.le_of_ble_eq_true rfl) (hI.fit (Nat.le_of_ble_eq_true rfl) (Nat.le_of_ble_eq_true rfl) (Nat.le_of_ble_eq_true rfl)) dX0_applyTo_7 (fun x7 hx7 => ?_)
      obtain rfl : (ch.length : Int) = x7 := by rw [hx7, hfr.1]; omega
      refine g_icmp_ge (tgt := 51) hC dX0_applyTo_10 (by decide) ⟨by omega, by omega⟩ ⟨by omega, by omega⟩ (fun h10 => ?_) (fun h10 => ?_)
      · refine g_vret hC hI rfl dX0_applyTo_51 (Nat.le_of_ble_eq_true rfl) (Nat.le_of_ble_eq_true rfl) ⟨rfl, rfl, rfl, ?_⟩
        have q : k = ch.length := by omega
        rw [q, List.drop_length] at k6
        rw [← k6]
        exact ⟨k3, k4, k5⟩
      · refine g_aload_n hC dX0_applyTo_13 rfl ?_
        refine g_iload_n hC dX0_applyTo_14 rfl ?_
        refine g_VP hC (kX0_isDeletion (gl X) (gD X) (gac X) t a a0 a1 a2 ch k hT9 hO9 hia hva ⟨by omega, by omega⟩) cvX0_isDeletion lkX0_43 (by assumption) rfl rfl (Nat.le_of_ble_eq_true rfl) (hI.fit (Nat.le_of_ble_eq_true rfl) (Nat.le_of_ble_eq_true rfl) (Nat.le_of_ble_eq_true rfl)) dX0_applyTo_15 (fun x15 hx15 => ?_)
        rw [Int.toNat_natCast] at hx15
        refine g_if_eq (tgt := 36) hC dX0_applyTo_18 (by decide) ⟨by omega, by omega⟩ (fun h18 => ?_) (fun h18 => ?_)
        · refine g_aload_n hC dX0_applyTo_36 rfl ?_
          refine g_aload_n hC dX0_applyTo_37 rfl ?_
          refine g_getR hC fdX0_12 (by assumption) (by assumption) dX0_applyTo_38 ?_
          refine g_iload_n hC dX0_applyTo_41 rfl ?_
          refine g_VV hC (kX4_put (gl X) (gD X) (gac X) b b0 b1 b2 a a0 a1 a2 ys ch k hO8 k3 k4 hO9 hia hva hd ⟨by omega, by omega⟩ (by rw [Int.toNat_natCast]; exact ⟨hnn k (by omega), by omega, by omega⟩)) cvX4_put lkX0_50 (by assumption) rfl rfl (Nat.le_of_ble_eq_true rfl) (hI.fit (Nat.le_of_ble_eq_true rfl) (Nat.le_of_ble_eq_true rfl) (Nat.le_of_ble_eq_true rfl)) dX0_applyTo_42 (fun mem42 hx42 => ?_)
          rw [Int.toNat_natCast] at hx42
          refine g_iinc hC dX0_applyTo_45 rfl ?_
          dsimp only [List.set]
          refine g_goto (tgt := 2) hC dX0_applyTo_48 (by decide) ?_
          first
          | exact J2 (ch.length + 1) 0 mem xs (Nat.zero_le _) (by omega) hi8 hv8 Fr4.rf rfl
          | (refine ih (k + 1) _ _ (by omega) (by omega) hx30.1 hx30.2.1 (k5.trans hx30.2.2) ?_
             rw [upS_step (k := k) (by omega), if_pos (hx15.elim (fun q => q.2) (fun q => absurd q.1 h18))] at k6
             exact k6)
          | (refine ih (k + 1) _ _ (by omega) (by omega) hx42.1 hx42.2.1 (k5.trans hx42.2.2) ?_
             rw [upS_step (k := k) (by omega), if_neg (hx15.elim (fun q => by omega) (fun q => q.2))] at k6
             exact k6)
        · refine g_aload_n hC dX0_applyTo_21 rfl ?_
          refine g_aload_n hC dX0_applyTo_22 rfl ?_
          refine g_getR hC fdX0_12 (by assumption) (by assumption) dX0_applyTo_23 ?_
          refine g_iload_n hC dX0_applyTo_26 rfl ?_
          refine g_VP hC (kX4_numberAt (gl X) (gD X) (gac X) a a0 a1 a2 ch k hO9 hia hva ⟨by omega, by omega⟩) cvX4_numberAt lkX0_36 (by assumption) rfl rfl (Nat.le_of_ble_eq_true rfl) (hI.fit (Nat.le_of_ble_eq_true rfl) (Nat.le_of_ble_eq_true rfl) (Nat.le_of_ble_eq_true rfl)) dX0_applyTo_27 (fun x27 hx27 => ?_)
          have e27 : x27 = nu ch k := by
            rw [Int.toNat_natCast] at hx27
            omega
          subst e27
          refine g_VV hC (kX4_removeNumber (gl X) (gD X) (gac X) b b0 b1 b2 ys (nu ch k) hO8 k3 k4 ⟨hnn k (by omega), by omega⟩) cvX4_removeNumber lkX0_46 (by assumption) rfl rfl (Nat.le_of_ble_eq_true rfl) (hI.fit (Nat.le_of_ble_eq_true rfl) (Nat.le_of_ble_eq_true rfl) (Nat.le_of_ble_eq_true rfl)) dX0_applyTo_30 (fun mem30 hx30 => ?_)
          refine g_goto (tgt := 45) hC dX0_applyTo_33 (by decide) ?_
          refine g_iinc hC dX0_applyTo_45 rfl ?_
          dsimp only [List.set]
          refine g_goto (tgt := 2) hC dX0_applyTo_48 (by decide) ?_
          first
          | exact J2 (ch.length + 1) 0 mem xs (Nat.zero_le _) (by omega) hi8 hv8 Fr4.rf rfl
          | (refine ih (k + 1) _ _ (by omega) (by omega) hx30.1 hx30.2.1 (k5.trans hx30.2.2) ?_
             rw [upS_step (k := k) (by omega), if_pos (hx15.elim (fun q => q.2) (fun q => absurd q.1 h18))] at k6
             exact k6)
          | (refine ih (k + 1) _ _ (by omega) (by omega) hx42.1 hx42.2.1 (k5.trans hx42.2.2) ?_
             rw [upS_step (k := k) (by omega), if_neg (hx15.elim (fun q => by omega) (fun q => q.2))] at k6
             exact k6)
  refine g_iconst hC dX0_applyTo_0 ?_
  refine g_istore_n hC 2 rfl dX0_applyTo_1 (Nat.le_of_ble_eq_true rfl) ?_
  dsimp only [List.set]
  first
  | exact J2 (ch.length + 1) 0 mem xs (Nat.zero_le _) (by omega) hi8 hv8 Fr4.rf rfl
  | (refine ih (k + 1) _ _ (by omega) (by omega) hx30.1 hx30.2.1 (k5.trans hx30.2.2) ?_
     rw [upS_step (k := k) (by omega), if_pos (hx15.elim (fun q => q.2) (fun q => absurd q.1 h18))] at k6
     exact k6)
  | (refine ih (k + 1) _ _ (by omega) (by omega) hx42.1 hx42.2.1 (k5.trans hx42.2.2) ?_
     rw [upS_step (k := k) (by omega), if_neg (hx15.elim (fun q => by omega) (fun q => q.2))] at k6
     exact k6)
set_option maxHeartbeats 4000000 in
set_option maxRecDepth 100000 in
theorem kX0_init (l : Launch) (D : va_G) (ac : Nat → ClassId) {sh : Nat → Nat × Nat} {rf : Nat → Nat → Option Nat} {mem : Nat → Nat → Int} (t : Nat) (ho : sh t = (1, 0)) : gMet l D ac mX0_init 2 [.ref t] 4 364 sh rf mem (pU (fun sh1 rf1 mem1 => ∃ a a0 a1 a2, (sh a).1 = 0 ∧ (sh a0).1 = 0 ∧ (sh a1).1 = 0 ∧ (sh a2).1 = 0 ∧ CtO sh1 rf1 t a ∧ LnO sh1 rf1 a a0 a1 a2 ∧ LnI mem1 a a0 a1 a2 ∧ LnV mem1 a a0 a1 a2 [] ∧ (∀ b, b ≠ a → b ≠ a0 → b ≠ a1 → b ≠ a2 → sh1 b = sh b) ∧ (∀ b, b ≠ t → b ≠ a → b ≠ a0 → b ≠ a1 → b ≠ a2 → rf1 b = rf b) ∧ (∀ b, b ≠ a → b ≠ a0 → b ≠ a1 → b ≠ a2 → mem1 b = mem b))) := by
  refine gMet.mk (by decide) (by intro v hv; simp at hv; (try rcases hv with rfl) <;> rfl) (Nat.le_of_ble_eq_true rfl) (fun X hC hI => ?_)
  show gG X sh rf mem 0 0 0 [some (.ref t)] []
  refine g_aload_n hC dX0_init_0 rfl ?_
  refine g_objInit hC lkX0_3 oi_in oi_co (by rw [hI.rm]; exact (Nat.le_of_ble_eq_true rfl)) (by rw [hI.rm]; exact (Nat.le_of_ble_eq_true rfl)) dX0_init_1 ?_
  refine g_aload_n hC dX0_init_4 rfl ?_
  refine g_newN hC neX0_9 (by rw [hI.rm]; exact (Nat.le_of_ble_eq_true rfl)) (by rw [hI.rm]; exact (Nat.le_of_ble_eq_true rfl)) dX0_init_5 (fun q5 sh5 rf5 mem5 hq5 esh5 erf5 emem5 => ?_)
  have ho5 := sh_keep esh5 hq5 ho (by decide)
  have s5 := sh_new esh5
  have z5 := sh_ne hq5 ho (by decide)
  refine g_dup hC dX0_init_8 rfl ?_
  refine g_IUn hC (kX4_init (gl X) (gD X) (gac X) q5 s5) ciX4_init lkX0_11 rfl rfl (Nat.le_of_ble_eq_true rfl) (hI.fit (Nat.le_of_ble_eq_true rfl) (Nat.le_of_ble_eq_true rfl) (Nat.le_of_ble_eq_true rfl)) dX0_init_9 (fun sh9 rf9 mem9 hx9 => ?_)
  obtain ⟨a0, a1, a2, f0, f1, f2, f3, f4, f5, f6, f7, f8, f9, f10⟩ := hx9
  have g0 : q5 ≠ a0 := by rintro e; rw [← e, s5] at f0; simp at f0
  have g1 : q5 ≠ a1 := by rintro e; rw [← e, s5] at f1; simp at f1
  have g2 : q5 ≠ a2 := by rintro e; rw [← e, s5] at f2; simp at f2
  have t0 : t ≠ a0 := by rintro e; rw [← e, ho5] at f0; simp at f0
  have t1 : t ≠ a1 := by rintro e; rw [← e, ho5] at f1; simp at f1
  have t2 : t ≠ a2 := by rintro e; rw [← e, ho5] at f2; simp at f2
  have ho9 : sh9 t = (1, 0) := by rw [f4 t t0 t1 t2]; exact ho5
  refine g_putR hC fdX0_12 hI.nm (fun C T N h => by cases h; rfl) (by assumption) rfl rfl dX0_init_12 ?_
  refine g_vret hC hI rfl dX0_init_15 (Nat.le_of_ble_eq_true rfl) (Nat.le_of_ble_eq_true rfl) ⟨rfl, ?_⟩
  have e0 : (sh a0).1 = 0 := by rw [esh5, va_up_ne _ _ g0.symm] at f0; exact f0
  have e1 : (sh a1).1 = 0 := by rw [esh5, va_up_ne _ _ g1.symm] at f1; exact f1
  have e2 : (sh a2).1 = 0 := by rw [esh5, va_up_ne _ _ g2.symm] at f2; exact f2
  have n9 := f3.ne
  refine ⟨q5, a0, a1, a2, hq5, e0, e1, e2, ⟨ho9, gur_s _ _ _ _⟩, ⟨f3.1, ?_, ?_, ?_, f3.2.2.2.2⟩, ⟨?_, ?_, ?_, ?_, ?_⟩, ⟨?_, fun i hi => absurd hi (Nat.not_lt_zero i)⟩, ?_, ?_, ?_⟩
  · rw [gur_a _ _ _ _ z5.symm]; exact f3.2.1
  · rw [gur_a _ _ _ _ z5.symm]; exact f3.2.2.1
  · rw [gur_a _ _ _ _ z5.symm]; exact f3.2.2.2.1
  · rw [f6 q5 g0 g1 g2, emem5, va_up_self]; decide
  · rw [f6 q5 g0 g1 g2, emem5, va_up_self]; decide
  · intro i; rw [f7]; decide
  · intro i; rw [f8]; decide
  · intro i; rw [f9]; decide
  · rw [f6 q5 g0 g1 g2, emem5, va_up_self]; rfl
  · intro b b9 b0 b1 b2
    rw [f4 b b0 b1 b2, esh5, va_up_ne _ _ b9]
  · intro b b8 b9 b0 b1 b2
    funext k
    rw [gur_a _ _ _ _ b8, f5 b b9 b0 b1 b2, erf5, va_up_ne _ _ b9]
  · intro b b9 b0 b1 b2
    rw [f6 b b0 b1 b2, emem5, va_up_ne _ _ b9]
