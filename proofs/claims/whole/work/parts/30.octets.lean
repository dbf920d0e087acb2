/-! Octets: the bytes of an export or import -/
def OcO (sh : Nat → Nat × Nat) (rf : Nat → Nat → Option Nat) (a a0 : Nat) : Prop := sh a = (5, 0) ∧ rf a 0 = some a0 ∧ sh a0 = (11, 244)
def OcV (mem : Nat → Nat → Int) (a a0 : Nat) (ob : List Int) : Prop := mem a 1 = ob.length ∧ ob.length ≤ 244 ∧ ∀ i, i < ob.length → mem a0 i = sb (ob.getD i 0) ∧ 0 ≤ ob.getD i 0 ∧ ob.getD i 0 < 256
def Fr2 (mem mem1 : Nat → Nat → Int) (a a0 : Nat) : Prop := ∀ b, b ≠ a → b ≠ a0 → mem1 b = mem b
theorem Fr2.rf {mem : Nat → Nat → Int} {a a0 : Nat} : Fr2 mem mem a a0 := fun _ _ _ => rfl
theorem Fr2.trans {m m1 m2 : Nat → Nat → Int} {a a0 : Nat} (h1 : Fr2 m m1 a a0) (h2 : Fr2 m1 m2 a a0) : Fr2 m m2 a a0 := fun b b1 b2 => (h2 b b1 b2).trans (h1 b b1 b2)
theorem OcO.ne {sh : Nat → Nat × Nat} {rf : Nat → Nat → Option Nat} {a a0 : Nat} (h : OcO sh rf a a0) : a ≠ a0 := by
  obtain ⟨h1, h2, h3⟩ := h
  rintro rfl
  simp_all
theorem getD_out {l : List Int} {i : Nat} (h : l.length ≤ i) : l.getD i 0 = 0 := by simp [List.getD_eq_getElem?_getD, List.getElem?_eq_none h]
theorem getD_app {l t : List Int} {i : Nat} (h : i < l.length) : (l ++ t).getD i 0 = l.getD i 0 := by simp [List.getD_eq_getElem?_getD, List.getElem?_append_left h]
theorem OcV_app {sh : Nat → Nat × Nat} {rf : Nat → Nat → Option Nat} {mem mem1 : Nat → Nat → Int} {a a0 : Nat} {ob : List Int} {v : Int} (hO : OcO sh rf a a0) (hv : OcV mem a a0 ob) (h : ob.length < 244) (e : mem1 = gup (gup mem a0 ob.length (sb v)) a 1 (ob.length + 1)) : OcV mem1 a a0 (ob ++ [v % 256]) ∧ Fr2 mem mem1 a a0 := by
  obtain ⟨v1, v2, v3⟩ := hv
  have n1 := hO.ne
  have n2 := n1.symm
  subst e
  refine ⟨⟨?_, ?_, ?_⟩, ?_⟩
  · rw [gup_s]
    simp
  · simp
    omega
  · intro i hi
    rw [gup_a _ _ _ _ n2]
    by_cases q : i = ob.length
    · subst q
      rw [gup_s]
      have e1 : (ob ++ [v % 256]).getD ob.length 0 = v % 256 := by simp [List.getD_eq_getElem?_getD]
      rw [e1]
      refine ⟨?_, by omega, by omega⟩
      unfold sb
      omega
    · have q2 : i < ob.length := by simp at hi; omega
      rw [gup_k _ _ _ _ q, getD_app q2]
      exact v3 i q2
  · intro b b1 b2
    funext j
    rw [gup_a _ _ _ _ b1, gup_a _ _ _ _ b2]
/-- the four bytes of a word, the highest first; a word of four bytes -/
def wb (w : Int) : List Int := [w / 16777216 % 256, w / 65536 % 256, w / 256 % 256, w % 256]
def wd (ob : List Int) (i : Nat) : Int := ob.getD i 0 * 16777216 + ob.getD (i + 1) 0 * 65536 + ob.getD (i + 2) 0 * 256 + ob.getD (i + 3) 0
theorem OcV.at {mem : Nat → Nat → Int} {a a0 : Nat} {ob : List Int} (hv : OcV mem a a0 ob) (i : Nat) : 0 ≤ ob.getD i 0 ∧ ob.getD i 0 < 256 := by
  by_cases q : i < ob.length
  · exact (hv.2.2 i q).2
  · rw [getD_out (by omega)]
    decide
set_option maxHeartbeats 4000000 in
set_option maxRecDepth 100000 in
theorem kX5_size (l : Launch) (D : va_G) (ac : Nat → ClassId) {sh : Nat → Nat × Nat} {rf : Nat → Nat → Option Nat} {mem : Nat → Nat → Int} (a a0 : Nat) (ob : List Int) (hO : OcO sh rf a a0) (hv : OcV mem a a0 ob) : gMet l D ac mX5_size 0 [.ref a] 0 0 sh rf mem (pP sh rf mem (fun r => r = ob.length)) := by
  refine gMet.mk (by decide) (by intro v hv; simp at hv; (try rcases hv with rfl) <;> rfl) (Nat.le_of_ble_eq_true rfl) (fun X hC hI => ?_)
  show gG X sh rf mem 0 0 0 [some (.ref a)] []
  have hO9 := hO
  have hv9 := hv
  obtain ⟨ho, hr0, hs0⟩ := hO
  obtain ⟨hv1, hv2, hv3⟩ := hv
  refine g_aload_n hC dX5_size_0 rfl ?_
  refine g_getI hC fdX5_15 (by assumption) dX5_size_1 ?_
  refine g_iret hC hI rfl dX5_size_4 (Nat.le_of_ble_eq_true rfl) (Nat.le_of_ble_eq_true rfl) ⟨rfl, rfl, rfl, _, rfl, ?_⟩
  omega
set_option maxHeartbeats 4000000 in
set_option maxRecDepth 100000 in
theorem kX5_clear (l : Launch) (D : va_G) (ac : Nat → ClassId) {sh : Nat → Nat × Nat} {rf : Nat → Nat → Option Nat} {mem : Nat → Nat → Int} (a a0 : Nat) (ob : List Int) (hO : OcO sh rf a a0) (hv : OcV mem a a0 ob) : gMet l D ac mX5_clear 0 [.ref a] 0 0 sh rf mem (pV sh rf (fun mem1 => OcV mem1 a a0 [] ∧ Fr2 mem mem1 a a0)) := by
  refine gMet.mk (by decide) (by intro v hv; simp at hv; (try rcases hv with rfl) <;> rfl) (Nat.le_of_ble_eq_true rfl) (fun X hC hI => ?_)
  show gG X sh rf mem 0 0 0 [some (.ref a)] []
  have hO9 := hO
  have hv9 := hv
  obtain ⟨ho, hr0, hs0⟩ := hO
  obtain ⟨hv1, hv2, hv3⟩ := hv
  refine g_aload_n hC dX5_clear_0 rfl ?_
  refine g_iconst hC dX5_clear_1 ?_
  refine g_putI hC fdX5_15 (by assumption) rfl rfl dX5_clear_2 ?_
  refine g_vret hC hI rfl dX5_clear_5 (Nat.le_of_ble_eq_true rfl) (Nat.le_of_ble_eq_true rfl) ⟨rfl, rfl, rfl, ?_⟩
  exact ⟨⟨by rw [gup_s]; rfl, by decide, fun i hi => absurd hi (Nat.not_lt_zero i)⟩, fun b b1 b2 => by funext j; rw [gup_a _ _ _ _ b1]⟩
set_option maxHeartbeats 4000000 in
set_option maxRecDepth 100000 in
theorem kX5_has (l : Launch) (D : va_G) (ac : Nat → ClassId) {sh : Nat → Nat × Nat} {rf : Nat → Nat → Option Nat} {mem : Nat → Nat → Int} (a a0 : Nat) (ob : List Int) (i : Int) (hO : OcO sh rf a a0) (hv : OcV mem a a0 ob) (hp : inR i) : gMet l D ac mX5_has 0 [.ref a, .int (iI i)] 0 0 sh rf mem (pP sh rf mem (fun r => (r = 1 ∧ 0 ≤ i ∧ i < ob.length) ∨ (r = 0 ∧ ¬ (0 ≤ i ∧ i < ob.length)))) := by
  refine gMet.mk (by decide) (by intro v hv; simp at hv; (try rcases hv with rfl | rfl) <;> rfl) (Nat.le_of_ble_eq_true rfl) (fun X hC hI => ?_)
  show gG X sh rf mem 0 0 0 [some (.ref a), some (.int (iI i))] []
  have hO9 := hO
  have hv9 := hv
  obtain ⟨ho, hr0, hs0⟩ := hO
  obtain ⟨hv1, hv2, hv3⟩ := hv
  obtain ⟨hp1, hp2⟩ := hp
  refine g_iload_n hC dX5_has_0 rfl ?_
  refine g_if_lt (tgt := 16) hC dX5_has_1 (by decide) ⟨by omega, by omega⟩ (fun h1 => ?_) (fun h1 => ?_)
  · refine g_iconst hC dX5_has_16 ?_
    refine g_zret hC hI rfl (by decide +kernel) dX5_has_17 (Nat.le_of_ble_eq_true rfl) (Nat.le_of_ble_eq_true rfl) ⟨rfl, rfl, rfl, _, rfl, ?_⟩
    omega
  · refine g_iload_n hC dX5_has_4 rfl ?_
    refine g_aload_n hC dX5_has_5 rfl ?_
    refine g_getI hC fdX5_15 (by assumption) dX5_has_6 ?_
    refine g_icmp_ge (tgt := 16) hC dX5_has_9 (by decide) ⟨by omega, by omega⟩ ⟨by omega, by omega⟩ (fun h9 => ?_) (fun h9 => ?_)
    · refine g_iconst hC dX5_has_16 ?_
      refine g_zret hC hI rfl (by decide +kernel) dX5_has_17 (Nat.le_of_ble_eq_true rfl) (Nat.le_of_ble_eq_true rfl) ⟨rfl, rfl, rfl, _, rfl, ?_⟩
      omega
    · refine g_iconst hC dX5_has_12 ?_
      refine g_goto (tgt := 17) hC dX5_has_13 (by decide) ?_
      refine g_zret hC hI rfl (by decide +kernel) dX5_has_17 (Nat.le_of_ble_eq_true rfl) (Nat.le_of_ble_eq_true rfl) ⟨rfl, rfl, rfl, _, rfl, ?_⟩
      omega
set_option maxHeartbeats 4000000 in
set_option maxRecDepth 100000 in
theorem kX5_append (l : Launch) (D : va_G) (ac : Nat → ClassId) {sh : Nat → Nat × Nat} {rf : Nat → Nat → Option Nat} {mem : Nat → Nat → Int} (a a0 : Nat) (ob : List Int) (v : Int) (hO : OcO sh rf a a0) (hv : OcV mem a a0 ob) : gMet l D ac mX5_append 0 [.ref a, .int (iI v)] 0 0 sh rf mem (pV sh rf (fun mem1 => OcV mem1 a a0 (if ob.length < 244 then ob ++ [v % 256] else ob) ∧ Fr2 mem mem1 a a0)) := by
  refine gMet.mk (by decide) (by intro v hv; simp at hv; (try rcases hv with rfl | rfl) <;> rfl) (Nat.le_of_ble_eq_true rfl) (fun X hC hI => ?_)
  show gG X sh rf mem 0 0 0 [some (.ref a), some (.int (iI v))] []
  have hO9 := hO
  have hv9 := hv
  obtain ⟨ho, hr0, hs0⟩ := hO
  obtain ⟨hv1, hv2, hv3⟩ := hv
  refine g_aload_n hC dX5_append_0 rfl ?_
  refine g_getI hC fdX5_15 (by assumption) dX5_append_1 ?_
  refine g_aload_n hC dX5_append_4 rfl ?_
  refine g_getR hC fdX5_9 (by assumption) (by assumption) dX5_append_5 ?_
  refine g_len hC (by assumption) (by decide) dX5_append_8 ?_
  refine g_icmp_ge (tgt := 33) hC dX5_append_9 (by decide) ⟨by omega, by omega⟩ ⟨by omega, by omega⟩ (fun h9 => ?_) (fun h9 => ?_)
  · refine g_vret hC hI rfl dX5_append_33 (Nat.le_of_ble_eq_true rfl) (Nat.le_of_ble_eq_true rfl) ⟨rfl, rfl, rfl, ?_⟩
    first
    | (rw [if_neg (by omega)]; exact ⟨hv9, Fr2.rf⟩)
    | (rw [if_pos (by omega)]
       refine OcV_app hO9 hv9 (by omega) ?_
       rw [gup_a _ _ _ _ hO9.ne, hv1, Int.toNat_natCast])
  · refine g_aload_n hC dX5_append_12 rfl ?_
    refine g_getR hC fdX5_9 (by assumption) (by assumption) dX5_append_13 ?_
    refine g_aload_n hC dX5_append_16 rfl ?_
    refine g_getI hC fdX5_15 (by assumption) dX5_append_17 ?_
    refine g_iload_n hC dX5_append_20 rfl ?_
    refine g_i2b hC dX5_append_21 ?_
    refine g_topI (iI_sb v) ?_
    have hsb := sb_le v
    refine g_bast (w := sb v) hC (by assumption) (by omega) (by omega) (by decide) (iI_byte hsb.1 hsb.2) dX5_append_22 ?_
    refine g_aload_n hC dX5_append_23 rfl ?_
    refine g_dup hC dX5_append_24 rfl ?_
    refine g_getI hC fdX5_15 (by assumption) dX5_append_25 ?_
    refine g_iconst hC dX5_append_28 ?_
    refine g_iadd hC dX5_append_29 ?_
    refine g_putI hC fdX5_15 (by assumption) rfl rfl dX5_append_30 ?_
    refine g_vret hC hI rfl dX5_append_33 (Nat.le_of_ble_eq_true rfl) (Nat.le_of_ble_eq_true rfl) ⟨rfl, rfl, rfl, ?_⟩
    first
    | (rw [if_neg (by omega)]; exact ⟨hv9, Fr2.rf⟩)
    | (rw [if_pos (by omega)]
       refine OcV_app hO9 hv9 (by omega) ?_
       rw [gup_a _ _ _ _ hO9.ne, hv1, Int.toNat_natCast])
set_option maxHeartbeats 4000000 in
set_option maxRecDepth 100000 in
theorem kX5_appendWord (l : Launch) (D : va_G) (ac : Nat → ClassId) {sh : Nat → Nat × Nat} {rf : Nat → Nat → Option Nat} {mem : Nat → Nat → Int} (a a0 : Nat) (ob : List Int) (w : Int) (hO : OcO sh rf a a0) (hv : OcV mem a a0 ob) (hl : ob.length + 4 ≤ 244) : gMet l D ac mX5_appendWord 1 [.ref a, .int (iI w)] 0 0 sh rf mem (pV sh rf (fun mem1 => OcV mem1 a a0 (ob ++ wb w) ∧ Fr2 mem mem1 a a0)) := by
  refine gMet.mk (by decide) (by intro v hv; simp at hv; (try rcases hv with rfl | rfl) <;> rfl) (Nat.le_of_ble_eq_true rfl) (fun X hC hI => ?_)
  show gG X sh rf mem 0 0 0 [some (.ref a), some (.int (iI w))] []
  have hO9 := hO
  have hv9 := hv
  obtain ⟨ho, hr0, hs0⟩ := hO
  obtain ⟨hv1, hv2, hv3⟩ := hv
  refine g_aload_n hC dX5_appendWord_0 rfl ?_
  refine g_iload_n hC dX5_appendWord_1 rfl ?_
  refine g_bipush hC dX5_appendWord_2 (by decide +kernel) ?_
  refine g_iushr hC dX5_appendWord_4 ?_
  refine g_topI (iI_ushr24 w) ?_
  refine g_VV hC (kX5_append (gl X) (gD X) (gac X) a a0 ob _ hO9 hv9) cvX5_append lkX5_19 (by assumption) rfl rfl (Nat.le_of_ble_eq_true rfl) (hI.fit (Nat.le_of_ble_eq_true rfl) (Nat.le_of_ble_eq_true rfl) (Nat.le_of_ble_eq_true rfl)) dX5_appendWord_5 (fun mem5 hx5 => ?_)
  rw [if_pos (by omega)] at hx5
  refine g_aload_n hC dX5_appendWord_8 rfl ?_
  refine g_iload_n hC dX5_appendWord_9 rfl ?_
  refine g_bipush hC dX5_appendWord_10 (by decide +kernel) ?_
  refine g_iushr hC dX5_appendWord_12 ?_
  refine g_topI (iI_ushr16 w) ?_
  refine g_VV hC (kX5_append (gl X) (gD X) (gac X) a a0 _ _ hO9 hx5.1) cvX5_append lkX5_19 (by assumption) rfl rfl (Nat.le_of_ble_eq_true rfl) (hI.fit (Nat.le_of_ble_eq_true rfl) (Nat.le_of_ble_eq_true rfl) (Nat.le_of_ble_eq_true rfl)) dX5_appendWord_13 (fun mem13 hx13 => ?_)
  rw [if_pos (by simp; omega)] at hx13
  refine g_aload_n hC dX5_appendWord_16 rfl ?_
  refine g_iload_n hC dX5_appendWord_17 rfl ?_
  refine g_bipush hC dX5_appendWord_18 (by decide +kernel) ?_
  refine g_iushr hC dX5_appendWord_20 ?_
  refine g_topI (iI_ushr8 w) ?_
  refine g_VV hC (kX5_append (gl X) (gD X) (gac X) a a0 _ _ hO9 hx13.1) cvX5_append lkX5_19 (by assumption) rfl rfl (Nat.le_of_ble_eq_true rfl) (hI.fit (Nat.le_of_ble_eq_true rfl) (Nat.le_of_ble_eq_true rfl) (Nat.le_of_ble_eq_true rfl)) dX5_appendWord_21 (fun mem21 hx21 => ?_)
  rw [if_pos (by simp; omega)] at hx21
  refine g_aload_n hC dX5_appendWord_24 rfl ?_
  refine g_iload_n hC dX5_appendWord_25 rfl ?_
  refine g_VV hC (kX5_append (gl X) (gD X) (gac X) a a0 _ _ hO9 hx21.1) cvX5_append lkX5_19 (by assumption) rfl rfl (Nat.le_of_ble_eq_true rfl) (hI.fit (Nat.le_of_ble_eq_true rfl) (Nat.le_of_ble_eq_true rfl) (Nat.le_of_ble_eq_true rfl)) dX5_appendWord_26 (fun mem26 hx26 => ?_)
  rw [if_pos (by simp; omega)] at hx26
  refine g_vret hC hI rfl dX5_appendWord_29 (Nat.le_of_ble_eq_true rfl) (Nat.le_of_ble_eq_true rfl) ⟨rfl, rfl, rfl, ?_⟩
  have e : ob ++ [w % 4294967296 / 16777216 % 256] ++ [w % 4294967296 / 65536 % 256] ++ [w % 4294967296 / 256 % 256] ++ [w % 256] = ob ++ wb w := by
    rw [List.append_assoc, List.append_assoc, List.append_assoc]
    congr 1
    show [_, _, _, _] = wb w
    unfold wb
    rw [show w % 4294967296 / 16777216 % 256 = w / 16777216 % 256 by omega, show w % 4294967296 / 65536 % 256 = w / 65536 % 256 by omega, show w % 4294967296 / 256 % 256 = w / 256 % 256 by omega]
  rw [← e]
  exact ⟨hx26.1, ((hx5.2.trans hx13.2).trans hx21.2).trans hx26.2⟩
set_option maxHeartbeats 4000000 in
set_option maxRecDepth 100000 in
theorem kX5_signedAt (l : Launch) (D : va_G) (ac : Nat → ClassId) {sh : Nat → Nat × Nat} {rf : Nat → Nat → Option Nat} {mem : Nat → Nat → Int} (a a0 : Nat) (ob : List Int) (i : Int) (hO : OcO sh rf a a0) (hv : OcV mem a a0 ob) (hp : inR i) : gMet l D ac mX5_signedAt 1 [.ref a, .int (iI i)] 0 0 sh rf mem (pP sh rf mem (fun r => (0 ≤ i ∧ i < ob.length ∧ r = sb (ob.getD i.toNat 0)) ∨ (¬ (0 ≤ i ∧ i < ob.length) ∧ r = 0))) := by
  refine gMet.mk (by decide) (by intro v hv; simp at hv; (try rcases hv with rfl | rfl) <;> rfl) (Nat.le_of_ble_eq_true rfl) (fun X hC hI => ?_)
  show gG X sh rf mem 0 0 0 [some (.ref a), some (.int (iI i))] []
  have hO9 := hO
  have hv9 := hv
  obtain ⟨ho, hr0, hs0⟩ := hO
  obtain ⟨hv1, hv2, hv3⟩ := hv
  have hp9 := hp
  obtain ⟨hp1, hp2⟩ := hp
  refine g_aload_n hC dX5_signedAt_0 rfl ?_
  refine g_iload_n hC dX5_signedAt_1 rfl ?_
  refine g_VP hC (kX5_has (gl X) (gD X) (gac X) a a0 ob i hO9 hv9 hp9) cvX5_has lkX5_23 (by assumption) rfl rfl (Nat.le_of_ble_eq_true rfl) (hI.fit (Nat.le_of_ble_eq_true rfl) (Nat.le_of_ble_eq_true rfl) (Nat.le_of_ble_eq_true rfl)) dX5_signedAt_2 (fun x2 hx2 => ?_)
  refine g_if_eq (tgt := 17) hC dX5_signedAt_5 (by decide) ⟨by omega, by omega⟩ (fun h5 => ?_) (fun h5 => ?_)
  · refine g_iconst hC dX5_signedAt_17 ?_
    refine g_zret hC hI rfl (by first | exact congrArg _ (iI_byte (by omega) (by omega)) | decide +kernel) dX5_signedAt_18 (Nat.le_of_ble_eq_true rfl) (Nat.le_of_ble_eq_true rfl) ⟨rfl, rfl, rfl, _, rfl, ?_⟩
    first | exact Or.inl ⟨by omega, by omega, q1⟩ | exact Or.inr ⟨by omega, rfl⟩
  · refine g_aload_n hC dX5_signedAt_8 rfl ?_
    refine g_getR hC fdX5_9 (by assumption) (by assumption) dX5_signedAt_9 ?_
    refine g_iload_n hC dX5_signedAt_12 rfl ?_
    refine g_bald hC (by assumption) (by omega) (by omega) (by decide) dX5_signedAt_13 ?_
    have q1 := (hv3 i.toNat (by omega)).1
    have q2 := sb_le (ob.getD i.toNat 0)
    refine g_goto (tgt := 18) hC dX5_signedAt_14 (by decide) ?_
    refine g_zret hC hI rfl (by first | exact congrArg _ (iI_byte (by omega) (by omega)) | decide +kernel) dX5_signedAt_18 (Nat.le_of_ble_eq_true rfl) (Nat.le_of_ble_eq_true rfl) ⟨rfl, rfl, rfl, _, rfl, ?_⟩
    first | exact Or.inl ⟨by omega, by omega, q1⟩ | exact Or.inr ⟨by omega, rfl⟩
set_option maxHeartbeats 4000000 in
set_option maxRecDepth 100000 in
theorem kX5_valueAt (l : Launch) (D : va_G) (ac : Nat → ClassId) {sh : Nat → Nat × Nat} {rf : Nat → Nat → Option Nat} {mem : Nat → Nat → Int} (a a0 : Nat) (ob : List Int) (i : Int) (hO : OcO sh rf a a0) (hv : OcV mem a a0 ob) (hp : inR i) : gMet l D ac mX5_valueAt 2 [.ref a, .int (iI i)] 0 0 sh rf mem (pP sh rf mem (fun r => 0 ≤ r ∧ r < 256 ∧ ((0 ≤ i ∧ r = ob.getD i.toNat 0) ∨ (i < 0 ∧ r = 0)))) := by
  refine gMet.mk (by decide) (by intro v hv; simp at hv; (try rcases hv with rfl | rfl) <;> rfl) (Nat.le_of_ble_eq_true rfl) (fun X hC hI => ?_)
  show gG X sh rf mem 0 0 0 [some (.ref a), some (.int (iI i))] []
  have hO9 := hO
  have hv9 := hv
  obtain ⟨ho, hr0, hs0⟩ := hO
  obtain ⟨hv1, hv2, hv3⟩ := hv
  have hp9 := hp
  obtain ⟨hp1, hp2⟩ := hp
  refine g_aload_n hC dX5_valueAt_0 rfl ?_
  refine g_iload_n hC dX5_valueAt_1 rfl ?_
  refine g_VP hC (kX5_signedAt (gl X) (gD X) (gac X) a a0 ob i hO9 hv9 hp9) cvX5_signedAt lkX5_27 (by assumption) rfl rfl (Nat.le_of_ble_eq_true rfl) (hI.fit (Nat.le_of_ble_eq_true rfl) (Nat.le_of_ble_eq_true rfl) (Nat.le_of_ble_eq_true rfl)) dX5_valueAt_2 (fun x2 hx2 => ?_)
  refine g_sipush hC dX5_valueAt_5 (by decide +kernel) ?_
  refine g_iand hC dX5_valueAt_8 ?_
  refine g_topI (iI_and255 x2) ?_
  refine g_iret hC hI rfl dX5_valueAt_9 (Nat.le_of_ble_eq_true rfl) (Nat.le_of_ble_eq_true rfl) ⟨rfl, rfl, rfl, _, rfl, ?_⟩
  refine ⟨by omega, by omega, ?_⟩
  have q := OcV.at hv9 i.toNat
  rcases hx2 with ⟨h1, h2, h3⟩ | ⟨h1, h2⟩
  · left
    refine ⟨h1, ?_⟩
    rw [h3, sb_u]
    omega
  · by_cases h3 : i < 0
    · right; omega
    · left
      refine ⟨by omega, ?_⟩
      rw [getD_out (by omega)]
      omega
set_option maxHeartbeats 4000000 in
set_option maxRecDepth 100000 in
theorem kX5_wordAt (l : Launch) (D : va_G) (ac : Nat → ClassId) {sh : Nat → Nat × Nat} {rf : Nat → Nat → Option Nat} {mem : Nat → Nat → Int} (a a0 : Nat) (ob : List Int) (i : Int) (hO : OcO sh rf a a0) (hv : OcV mem a a0 ob) (hp : 0 ≤ i ∧ i ≤ 1000) : gMet l D ac mX5_wordAt 3 [.ref a, .int (iI i)] 0 0 sh rf mem (pP sh rf mem (fun r => r = wd ob i.toNat)) := by
  refine gMet.mk (by decide) (by intro v hv; simp at hv; (try rcases hv with rfl | rfl) <;> rfl) (Nat.le_of_ble_eq_true rfl) (fun X hC hI => ?_)
  show gG X sh rf mem 0 0 0 [some (.ref a), some (.int (iI i))] []
  have hO9 := hO
  have hv9 := hv
  obtain ⟨ho, hr0, hs0⟩ := hO
  obtain ⟨hv1, hv2, hv3⟩ := hv
  refine g_aload_n hC dX5_wordAt_0 rfl ?_
  refine g_iload_n hC dX5_wordAt_1 rfl ?_
  refine g_VP hC (kX5_valueAt (gl X) (gD X) (gac X) a a0 ob i hO9 hv9 ⟨by omega, by omega⟩) cvX5_valueAt lkX5_31 (by assumption) rfl rfl (Nat.le_of_ble_eq_true rfl) (hI.fit (Nat.le_of_ble_eq_true rfl) (Nat.le_of_ble_eq_true rfl) (Nat.le_of_ble_eq_true rfl)) dX5_wordAt_2 (fun x2 hx2 => ?_)
  refine g_bipush hC dX5_wordAt_5 (by decide +kernel) ?_
  refine g_ishl hC dX5_wordAt_7 ?_
  refine g_topI (iI_sh24 (by omega) (by omega)) ?_
  refine g_aload_n hC dX5_wordAt_8 rfl ?_
  refine g_iload_n hC dX5_wordAt_9 rfl ?_
  refine g_iconst hC dX5_wordAt_10 ?_
  refine g_iadd hC dX5_wordAt_11 ?_
  refine g_VP hC (kX5_valueAt (gl X) (gD X) (gac X) a a0 ob (i + 1) hO9 hv9 ⟨by omega, by omega⟩) cvX5_valueAt lkX5_31 (by assumption) rfl rfl (Nat.le_of_ble_eq_true rfl) (hI.fit (Nat.le_of_ble_eq_true rfl) (Nat.le_of_ble_eq_true rfl) (Nat.le_of_ble_eq_true rfl)) dX5_wordAt_12 (fun x12 hx12 => ?_)
  refine g_bipush hC dX5_wordAt_15 (by decide +kernel) ?_
  refine g_ishl hC dX5_wordAt_17 ?_
  refine g_topI (iI_sh16 (by omega) (by omega)) ?_
  refine g_ior hC dX5_wordAt_18 ?_
  refine g_topI (iI_or (a := x2) 24 (by omega) (by omega) (by omega) (by omega)) ?_
  refine g_aload_n hC dX5_wordAt_19 rfl ?_
  refine g_iload_n hC dX5_wordAt_20 rfl ?_
  refine g_iconst hC dX5_wordAt_21 ?_
  refine g_iadd hC dX5_wordAt_22 ?_
  refine g_VP hC (kX5_valueAt (gl X) (gD X) (gac X) a a0 ob (i + 2) hO9 hv9 ⟨by omega, by omega⟩) cvX5_valueAt lkX5_31 (by assumption) rfl rfl (Nat.le_of_ble_eq_true rfl) (hI.fit (Nat.le_of_ble_eq_true rfl) (Nat.le_of_ble_eq_true rfl) (Nat.le_of_ble_eq_true rfl)) dX5_wordAt_23 (fun x23 hx23 => ?_)
  refine g_bipush hC dX5_wordAt_26 (by decide +kernel) ?_
  refine g_ishl hC dX5_wordAt_28 ?_
  refine g_topI (iI_sh8 (by omega) (by omega)) ?_
  refine g_ior hC dX5_wordAt_29 ?_
  refine g_topI (iI_or (a := x2 * 256 + x12) 16 (by omega) (by omega) (by omega) (by omega)) ?_
  refine g_aload_n hC dX5_wordAt_30 rfl ?_
  refine g_iload_n hC dX5_wordAt_31 rfl ?_
  refine g_iconst hC dX5_wordAt_32 ?_
  refine g_iadd hC dX5_wordAt_33 ?_
  refine g_VP hC (kX5_valueAt (gl X) (gD X) (gac X) a a0 ob (i + 3) hO9 hv9 ⟨by omega, by omega⟩) cvX5_valueAt lkX5_31 (by assumption) rfl rfl (Nat.le_of_ble_eq_true rfl) (hI.fit (Nat.le_of_ble_eq_true rfl) (Nat.le_of_ble_eq_true rfl) (Nat.le_of_ble_eq_true rfl)) dX5_wordAt_34 (fun x34 hx34 => ?_)
  refine g_ior hC dX5_wordAt_37 ?_
  refine g_topI (iI_or (a := x2 * 65536 + x12 * 256 + x23) 8 (by omega) (by omega) (by omega) (by omega)) ?_
  refine g_iret hC hI rfl dX5_wordAt_38 (Nat.le_of_ble_eq_true rfl) (Nat.le_of_ble_eq_true rfl) ⟨rfl, rfl, rfl, _, rfl, ?_⟩
  have e1 : (i + 1).toNat = i.toNat + 1 := by omega
  have e2 : (i + 2).toNat = i.toNat + 2 := by omega
  have e3 : (i + 3).toNat = i.toNat + 3 := by omega
  rw [e1] at hx12
  rw [e2] at hx23
  rw [e3] at hx34
  unfold wd
  omega
set_option maxHeartbeats 4000000 in
set_option maxRecDepth 100000 in
theorem kX5_init (l : Launch) (D : va_G) (ac : Nat → ClassId) {sh : Nat → Nat × Nat} {rf : Nat → Nat → Option Nat} {mem : Nat → Nat → Int} (a : Nat) (ho : sh a = (5, 0)) : gMet l D ac mX5_init 1 [.ref a] 1 244 sh rf mem (pU (fun sh1 rf1 mem1 => ∃ a0, (sh a0).1 = 0 ∧ OcO sh1 rf1 a a0 ∧ (∀ b, b ≠ a0 → sh1 b = sh b) ∧ (∀ b, b ≠ a → b ≠ a0 → rf1 b = rf b) ∧ (∀ b, b ≠ a0 → mem1 b = mem b))) := by
  refine gMet.mk (by decide) (by intro v hv; simp at hv; (try rcases hv with rfl) <;> rfl) (Nat.le_of_ble_eq_true rfl) (fun X hC hI => ?_)
  show gG X sh rf mem 0 0 0 [some (.ref a)] []
  refine g_aload_n hC dX5_init_0 rfl ?_
  refine g_objInit hC lkX5_3 oi_in oi_co (by rw [hI.rm]; exact (Nat.le_of_ble_eq_true rfl)) (by rw [hI.rm]; exact (Nat.le_of_ble_eq_true rfl)) dX5_init_1 ?_
  refine g_aload_n hC dX5_init_4 rfl ?_
  refine g_sipush hC dX5_init_5 (by decide +kernel) ?_
  refine g_newaN (atype := .byte) 244 hC arr_byte rfl (Or.inl ⟨rfl, rfl, rfl⟩) rfl (by decide) (by rw [hI.rm]; exact (Nat.le_of_ble_eq_true rfl)) (by rw [hI.rm]; exact (Nat.le_of_ble_eq_true rfl)) dX5_init_8 (fun q8 sh8 rf8 mem8 hq8 esh8 erf8 emem8 => ?_)
  have ho8 := sh_keep esh8 hq8 ho (by decide)
  have s8 := sh_new esh8
  have z8 := sh_ne hq8 ho (by decide)
  refine g_putR hC fdX5_9 hI.nm (fun C T N h => by cases h; rfl) (by assumption) rfl rfl dX5_init_10 ?_
  refine g_vret hC hI rfl dX5_init_13 (Nat.le_of_ble_eq_true rfl) (Nat.le_of_ble_eq_true rfl) ⟨rfl, ?_⟩
  refine ⟨q8, hq8, ⟨ho8, gur_s _ _ _ _, s8⟩, fun b b0 => ?_, fun b b9 b0 => ?_, fun b b0 => ?_⟩
  · rw [esh8, va_up_ne _ _ b0]
  · funext k
    rw [gur_a _ _ _ _ b9, erf8, va_up_ne _ _ b0]
  · rw [emem8, va_up_ne _ _ b0]
/-! Step: the greatest code, dry acts -/
set_option maxHeartbeats 4000000 in
set_option maxRecDepth 100000 in
theorem kX8_init (l : Launch) (D : va_G) (ac : Nat → ClassId) {sh : Nat → Nat × Nat} {rf : Nat → Nat → Option Nat} {mem : Nat → Nat → Int} (a : Nat) (ho : sh a = (8, 0)) : gMet l D ac mX8_init 1 [.ref a] 0 0 sh rf mem (pU (fun sh1 rf1 mem1 => sh1 = sh ∧ rf1 = rf ∧ mem1 = mem)) := by
  refine gMet.mk (by decide) (by intro v hv; simp at hv; (try rcases hv with rfl) <;> rfl) (Nat.le_of_ble_eq_true rfl) (fun X hC hI => ?_)
  show gG X sh rf mem 0 0 0 [some (.ref a)] []
  refine g_aload_n hC dX8_init_0 rfl ?_
  refine g_objInit hC lkX8_3 oi_in oi_co (by rw [hI.rm]; exact (Nat.le_of_ble_eq_true rfl)) (by rw [hI.rm]; exact (Nat.le_of_ble_eq_true rfl)) dX8_init_1 ?_
  refine g_vret hC hI rfl dX8_init_4 (Nat.le_of_ble_eq_true rfl) (Nat.le_of_ble_eq_true rfl) ⟨rfl, ?_⟩
  exact ⟨rfl, rfl, rfl⟩
set_option maxHeartbeats 4000000 in
set_option maxRecDepth 100000 in
theorem kX8_greatestCode (l : Launch) (D : va_G) (ac : Nat → ClassId) {sh : Nat → Nat × Nat} {rf : Nat → Nat → Option Nat} {mem : Nat → Nat → Int} (a : Nat) (ho : sh a = (8, 0)) : gMet l D ac mX8_greatestCode 0 [.ref a] 0 0 sh rf mem (pP sh rf mem (fun r => r = mem a 0)) := by
  refine gMet.mk (by decide) (by intro v hv; simp at hv; (try rcases hv with rfl) <;> rfl) (Nat.le_of_ble_eq_true rfl) (fun X hC hI => ?_)
  show gG X sh rf mem 0 0 0 [some (.ref a)] []
  refine g_aload_n hC dX8_greatestCode_0 rfl ?_
  refine g_getI hC fdX8_9 (by assumption) dX8_greatestCode_1 ?_
  refine g_iret hC hI rfl dX8_greatestCode_4 (Nat.le_of_ble_eq_true rfl) (Nat.le_of_ble_eq_true rfl) ⟨rfl, rfl, rfl, _, rfl, ?_⟩
  rfl
set_option maxHeartbeats 4000000 in
set_option maxRecDepth 100000 in
theorem kX8_beginAnew (l : Launch) (D : va_G) (ac : Nat → ClassId) {sh : Nat → Nat × Nat} {rf : Nat → Nat → Option Nat} {mem : Nat → Nat → Int} (a : Nat) (ho : sh a = (8, 0)) : gMet l D ac mX8_beginAnew 0 [.ref a] 0 0 sh rf mem (pM sh rf (fun r mem1 => r = mem a 0 ∧ mem1 = gup mem a 0 0)) := by
  refine gMet.mk (by decide) (by intro v hv; simp at hv; (try rcases hv with rfl) <;> rfl) (Nat.le_of_ble_eq_true rfl) (fun X hC hI => ?_)
  show gG X sh rf mem 0 0 0 [some (.ref a), none] []
  refine g_aload_n hC dX8_beginAnew_0 rfl ?_
  refine g_getI hC fdX8_9 (by assumption) dX8_beginAnew_1 ?_
  refine g_istore_n hC 1 rfl dX8_beginAnew_4 (Nat.le_of_ble_eq_true rfl) ?_
  dsimp only [List.set]
  refine g_aload_n hC dX8_beginAnew_5 rfl ?_
  refine g_iconst hC dX8_beginAnew_6 ?_
  refine g_putI hC fdX8_9 (by assumption) rfl rfl dX8_beginAnew_7 ?_
  refine g_iload_n hC dX8_beginAnew_10 rfl ?_
  refine g_iret hC hI rfl dX8_beginAnew_11 (Nat.le_of_ble_eq_true rfl) (Nat.le_of_ble_eq_true rfl) ⟨rfl, rfl, _, rfl, ?_⟩
  exact ⟨rfl, rfl⟩
set_option maxHeartbeats 4000000 in
set_option maxRecDepth 100000 in
theorem kX8_turnDry (l : Launch) (D : va_G) (ac : Nat → ClassId) {sh : Nat → Nat × Nat} {rf : Nat → Nat → Option Nat} {mem : Nat → Nat → Int} (a : Nat) (v : Int) (ho : sh a = (8, 0)) (hp : v = 0 ∨ v = 1) : gMet l D ac mX8_turnDry 0 [.ref a, .int (iI v)] 0 0 sh rf mem (pM sh rf (fun r mem1 => r = mem a 2 ∧ mem1 = gup mem a 1 v)) := by
  refine gMet.mk (by decide) (by intro v hv; simp at hv; (try rcases hv with rfl | rfl) <;> rfl) (Nat.le_of_ble_eq_true rfl) (fun X hC hI => ?_)
  show gG X sh rf mem 0 0 0 [some (.ref a), some (.int (iI v))] []
  refine g_aload_n hC dX8_turnDry_0 rfl ?_
  refine g_iload_n hC dX8_turnDry_1 rfl ?_
  refine g_putI hC fdX8_15 (by assumption) (by rcases hp with rfl | rfl <;> decide +kernel) (by rcases hp with rfl | rfl <;> decide +kernel) dX8_turnDry_2 ?_
  refine g_aload_n hC dX8_turnDry_5 rfl ?_
  refine g_getI hC fdX8_19 (by assumption) dX8_turnDry_6 ?_
  refine g_iret hC hI rfl dX8_turnDry_9 (Nat.le_of_ble_eq_true rfl) (Nat.le_of_ble_eq_true rfl) ⟨rfl, rfl, _, rfl, ?_⟩
  exact ⟨gup_k _ _ _ _ (by decide), rfl⟩
set_option maxHeartbeats 4000000 in
set_option maxRecDepth 100000 in
theorem kX8_carriesOut (l : Launch) (D : va_G) (ac : Nat → ClassId) {sh : Nat → Nat × Nat} {rf : Nat → Nat → Option Nat} {mem : Nat → Nat → Int} (a : Nat) (c : Int) (ho : sh a = (8, 0)) (hg : 0 ≤ mem a 0 ∧ mem a 0 ≤ 12 ∧ (mem a 1 = 0 ∨ mem a 1 = 1)) (hp : -100 ≤ c ∧ c ≤ 12) : gMet l D ac mX8_carriesOut 1 [.ref a, .int (iI c)] 0 0 sh rf mem (pM sh rf (fun r mem1 => (c < 0 ∧ r = 0 ∧ mem1 = mem) ∨ (0 ≤ c ∧ mem a 1 = 1 ∧ r = 0 ∧ mem1 = gup (gup mem a 0 (if mem a 0 < c then c else mem a 0)) a 2 (mem a 2 + 1)) ∨ (0 ≤ c ∧ mem a 1 = 0 ∧ ((r = 1 ∧ (c = 0 ∨ c = 4)) ∨ (r = 0 ∧ ¬ (c = 0 ∨ c = 4))) ∧ mem1 = gup mem a 0 (if mem a 0 < c then c else mem a 0)))) := by
  refine gMet.mk (by decide) (by intro v hv; simp at hv; (try rcases hv with rfl | rfl) <;> rfl) (Nat.le_of_ble_eq_true rfl) (fun X hC hI => ?_)
  show gG X sh rf mem 0 0 0 [some (.ref a), some (.int (iI c))] []
  refine g_iload_n hC dX8_carriesOut_0 rfl ?_
  refine g_if_ge (tgt := 6) hC dX8_carriesOut_1 (by decide) ⟨by omega, by omega⟩ (fun h1 => ?_) (fun h1 => ?_)
  · refine g_aload_n hC dX8_carriesOut_6 rfl ?_
    refine g_aload_n hC dX8_carriesOut_7 rfl ?_
    refine g_getI hC fdX8_9 (by assumption) dX8_carriesOut_8 ?_
    refine g_iload_n hC dX8_carriesOut_11 rfl ?_
    refine g_max hC lkX8_22 ⟨by omega, by omega⟩ ⟨by omega, by omega⟩ (by rw [hI.rm]; exact (Nat.le_of_ble_eq_true rfl)) (by rw [hI.rm]; exact (Nat.le_of_ble_eq_true rfl)) (by rw [hI.rm]; exact (Nat.le_of_ble_eq_true rfl)) (by rw [hI.rm]; exact (Nat.le_of_ble_eq_true rfl)) dX8_carriesOut_12 ?_
    refine g_putI hC fdX8_9 (by assumption) rfl rfl dX8_carriesOut_15 ?_
    refine g_aload_n hC dX8_carriesOut_18 rfl ?_
    refine g_getI hC fdX8_15 (by assumption) dX8_carriesOut_19 ?_
    rw [gup_k _ _ _ _ (by decide)]
    refine g_if_eq (tgt := 37) hC dX8_carriesOut_22 (by decide) ⟨by omega, by omega⟩ (fun h22 => ?_) (fun h22 => ?_)
    · refine g_iload_n hC dX8_carriesOut_37 rfl ?_
      refine g_if_eq (tgt := 46) hC dX8_carriesOut_38 (by decide) ⟨by omega, by omega⟩ (fun h38 => ?_) (fun h38 => ?_)
      · refine g_iconst hC dX8_carriesOut_46 ?_
        refine g_goto (tgt := 51) hC dX8_carriesOut_47 (by decide) ?_
        refine g_zret hC hI rfl (by decide +kernel) dX8_carriesOut_51 (Nat.le_of_ble_eq_true rfl) (Nat.le_of_ble_eq_true rfl) ⟨rfl, rfl, _, rfl, ?_⟩
        exact Or.inr (Or.inr ⟨by omega, by omega, by omega, rfl⟩)
      · refine g_iload_n hC dX8_carriesOut_41 rfl ?_
        refine g_iconst hC dX8_carriesOut_42 ?_
        refine g_icmp_ne (tgt := 50) hC dX8_carriesOut_43 (by decide) ⟨by omega, by omega⟩ ⟨by omega, by omega⟩ (fun h43 => ?_) (fun h43 => ?_)
        · refine g_iconst hC dX8_carriesOut_50 ?_
          refine g_zret hC hI rfl (by decide +kernel) dX8_carriesOut_51 (Nat.le_of_ble_eq_true rfl) (Nat.le_of_ble_eq_true rfl) ⟨rfl, rfl, _, rfl, ?_⟩
          exact Or.inr (Or.inr ⟨by omega, by omega, by omega, rfl⟩)
        · refine g_iconst hC dX8_carriesOut_46 ?_
          refine g_goto (tgt := 51) hC dX8_carriesOut_47 (by decide) ?_
          refine g_zret hC hI rfl (by decide +kernel) dX8_carriesOut_51 (Nat.le_of_ble_eq_true rfl) (Nat.le_of_ble_eq_true rfl) ⟨rfl, rfl, _, rfl, ?_⟩
          exact Or.inr (Or.inr ⟨by omega, by omega, by omega, rfl⟩)
    · refine g_aload_n hC dX8_carriesOut_25 rfl ?_
      refine g_dup hC dX8_carriesOut_26 rfl ?_
      refine g_getI hC fdX8_19 (by assumption) dX8_carriesOut_27 ?_
      refine g_iconst hC dX8_carriesOut_30 ?_
      refine g_iadd hC dX8_carriesOut_31 ?_
      refine g_putI hC fdX8_19 (by assumption) rfl rfl dX8_carriesOut_32 ?_
      refine g_iconst hC dX8_carriesOut_35 ?_
      refine g_zret hC hI rfl (by decide +kernel) dX8_carriesOut_36 (Nat.le_of_ble_eq_true rfl) (Nat.le_of_ble_eq_true rfl) ⟨rfl, rfl, _, rfl, ?_⟩
      exact Or.inr (Or.inl ⟨by omega, by omega, rfl, by rw [gup_k _ _ _ _ (by decide)]⟩)
  · refine g_iconst hC dX8_carriesOut_4 ?_
    refine g_zret hC hI rfl (by decide +kernel) dX8_carriesOut_5 (Nat.le_of_ble_eq_true rfl) (Nat.le_of_ble_eq_true rfl) ⟨rfl, rfl, _, rfl, ?_⟩
    exact Or.inl ⟨by omega, rfl, rfl⟩
/-! the tests of names, numbers and signs -/
set_option maxHeartbeats 4000000 in
set_option maxRecDepth 100000 in
theorem kX9_isName (l : Launch) (D : va_G) (ac : Nat → ClassId) {sh : Nat → Nat × Nat} {rf : Nat → Nat → Option Nat} {mem : Nat → Nat → Int} (n : Int) (hp : inR n) : gMet l D ac mX9_isName 0 [.int (iI n)] 0 0 sh rf mem (pP sh rf mem (fun r => (r = 1 ∧ 0 ≤ n ∧ n < 100) ∨ (r = 0 ∧ ¬ (0 ≤ n ∧ n < 100)))) := by
  refine gMet.mk (by decide) (by intro v hv; simp at hv; (try rcases hv with rfl) <;> rfl) (Nat.le_of_ble_eq_true rfl) (fun X hC hI => ?_)
  show gG X sh rf mem 0 0 0 [some (.int (iI n))] []
  obtain ⟨hp1, hp2⟩ := hp
  refine g_iload_n hC dX9_isName_0 rfl ?_
  refine g_if_lt (tgt := 14) hC dX9_isName_1 (by decide) ⟨by omega, by omega⟩ (fun h1 => ?_) (fun h1 => ?_)
  · refine g_iconst hC dX9_isName_14 ?_
    refine g_zret hC hI rfl (by decide +kernel) dX9_isName_15 (Nat.le_of_ble_eq_true rfl) (Nat.le_of_ble_eq_true rfl) ⟨rfl, rfl, rfl, _, rfl, ?_⟩
    omega
  · refine g_iload_n hC dX9_isName_4 rfl ?_
    refine g_bipush hC dX9_isName_5 (by decide +kernel) ?_
    refine g_icmp_ge (tgt := 14) hC dX9_isName_7 (by decide) ⟨by omega, by omega⟩ ⟨by omega, by omega⟩ (fun h7 => ?_) (fun h7 => ?_)
    · refine g_iconst hC dX9_isName_14 ?_
      refine g_zret hC hI rfl (by decide +kernel) dX9_isName_15 (Nat.le_of_ble_eq_true rfl) (Nat.le_of_ble_eq_true rfl) ⟨rfl, rfl, rfl, _, rfl, ?_⟩
      omega
    · refine g_iconst hC dX9_isName_10 ?_
      refine g_goto (tgt := 15) hC dX9_isName_11 (by decide) ?_
      refine g_zret hC hI rfl (by decide +kernel) dX9_isName_15 (Nat.le_of_ble_eq_true rfl) (Nat.le_of_ble_eq_true rfl) ⟨rfl, rfl, rfl, _, rfl, ?_⟩
      omega
set_option maxHeartbeats 4000000 in
set_option maxRecDepth 100000 in
theorem kX9_isLineNumber (l : Launch) (D : va_G) (ac : Nat → ClassId) {sh : Nat → Nat × Nat} {rf : Nat → Nat → Option Nat} {mem : Nat → Nat → Int} (n : Int) (hp : inR n) : gMet l D ac mX9_isLineNumber 0 [.int (iI n)] 0 0 sh rf mem (pP sh rf mem (fun r => (r = 1 ∧ 1 ≤ n ∧ n ≤ 9999) ∨ (r = 0 ∧ ¬ (1 ≤ n ∧ n ≤ 9999)))) := by
  refine gMet.mk (by decide) (by intro v hv; simp at hv; (try rcases hv with rfl) <;> rfl) (Nat.le_of_ble_eq_true rfl) (fun X hC hI => ?_)
  show gG X sh rf mem 0 0 0 [some (.int (iI n))] []
  obtain ⟨hp1, hp2⟩ := hp
  refine g_iload_n hC dX9_isLineNumber_0 rfl ?_
  refine g_iconst hC dX9_isLineNumber_1 ?_
  refine g_icmp_lt (tgt := 16) hC dX9_isLineNumber_2 (by decide) ⟨by omega, by omega⟩ ⟨by omega, by omega⟩ (fun h2 => ?_) (fun h2 => ?_)
  · refine g_iconst hC dX9_isLineNumber_16 ?_
    refine g_zret hC hI rfl (by decide +kernel) dX9_isLineNumber_17 (Nat.le_of_ble_eq_true rfl) (Nat.le_of_ble_eq_true rfl) ⟨rfl, rfl, rfl, _, rfl, ?_⟩
    omega
  · refine g_iload_n hC dX9_isLineNumber_5 rfl ?_
    refine g_sipush hC dX9_isLineNumber_6 (by decide +kernel) ?_
    refine g_icmp_gt (tgt := 16) hC dX9_isLineNumber_9 (by decide) ⟨by omega, by omega⟩ ⟨by omega, by omega⟩ (fun h9 => ?_) (fun h9 => ?_)
    · refine g_iconst hC dX9_isLineNumber_16 ?_
      refine g_zret hC hI rfl (by decide +kernel) dX9_isLineNumber_17 (Nat.le_of_ble_eq_true rfl) (Nat.le_of_ble_eq_true rfl) ⟨rfl, rfl, rfl, _, rfl, ?_⟩
      omega
    · refine g_iconst hC dX9_isLineNumber_12 ?_
      refine g_goto (tgt := 17) hC dX9_isLineNumber_13 (by decide) ?_
      refine g_zret hC hI rfl (by decide +kernel) dX9_isLineNumber_17 (Nat.le_of_ble_eq_true rfl) (Nat.le_of_ble_eq_true rfl) ⟨rfl, rfl, rfl, _, rfl, ?_⟩
      omega
set_option maxHeartbeats 4000000 in
set_option maxRecDepth 100000 in
theorem kX9_isSign (l : Launch) (D : va_G) (ac : Nat → ClassId) {sh : Nat → Nat × Nat} {rf : Nat → Nat → Option Nat} {mem : Nat → Nat → Int} (n : Int) (hp : inR n) : gMet l D ac mX9_isSign 0 [.int (iI n)] 0 0 sh rf mem (pP sh rf mem (fun r => (r = 1 ∧ 32 ≤ n ∧ n ≤ 126) ∨ (r = 0 ∧ ¬ (32 ≤ n ∧ n ≤ 126)))) := by
  refine gMet.mk (by decide) (by intro v hv; simp at hv; (try rcases hv with rfl) <;> rfl) (Nat.le_of_ble_eq_true rfl) (fun X hC hI => ?_)
  show gG X sh rf mem 0 0 0 [some (.int (iI n))] []
  obtain ⟨hp1, hp2⟩ := hp
  refine g_iload_n hC dX9_isSign_0 rfl ?_
  refine g_bipush hC dX9_isSign_1 (by decide +kernel) ?_
  refine g_icmp_lt (tgt := 16) hC dX9_isSign_3 (by decide) ⟨by omega, by omega⟩ ⟨by omega, by omega⟩ (fun h3 => ?_) (fun h3 => ?_)
  · refine g_iconst hC dX9_isSign_16 ?_
    refine g_zret hC hI rfl (by decide +kernel) dX9_isSign_17 (Nat.le_of_ble_eq_true rfl) (Nat.le_of_ble_eq_true rfl) ⟨rfl, rfl, rfl, _, rfl, ?_⟩
    omega
  · refine g_iload_n hC dX9_isSign_6 rfl ?_
    refine g_bipush hC dX9_isSign_7 (by decide +kernel) ?_
    refine g_icmp_gt (tgt := 16) hC dX9_isSign_9 (by decide) ⟨by omega, by omega⟩ ⟨by omega, by omega⟩ (fun h9 => ?_) (fun h9 => ?_)
    · refine g_iconst hC dX9_isSign_16 ?_
      refine g_zret hC hI rfl (by decide +kernel) dX9_isSign_17 (Nat.le_of_ble_eq_true rfl) (Nat.le_of_ble_eq_true rfl) ⟨rfl, rfl, rfl, _, rfl, ?_⟩
      omega
    · refine g_iconst hC dX9_isSign_12 ?_
      refine g_goto (tgt := 17) hC dX9_isSign_13 (by decide) ?_
      refine g_zret hC hI rfl (by decide +kernel) dX9_isSign_17 (Nat.le_of_ble_eq_true rfl) (Nat.le_of_ble_eq_true rfl) ⟨rfl, rfl, rfl, _, rfl, ?_⟩
      omega
