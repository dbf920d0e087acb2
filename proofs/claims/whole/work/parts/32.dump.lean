/-! Dump -/
def hexS (d : Int) : Int := if d < 10 then 48 + d else 55 + d
def asS (v : Int) : Int := if 32 ≤ v ∧ v ≤ 126 then v else 46
def othS (v : Int) : Int := if 193 ≤ v ∧ v ≤ 201 then v - 128 else if 209 ≤ v ∧ v ≤ 217 then v - 135 else if 226 ≤ v ∧ v ≤ 233 then v - 143 else if 240 ≤ v ∧ v ≤ 249 then v - 192 else if v = 64 then 32 else 46
def decS (p k : Int) : Int := 48 + (if k = 0 then p / 1000 else if k = 1 then p / 100 else if k = 2 then p / 10 else p) % 10
def colS (v m : Int) : Int := if m = 0 then 32 else if m = 1 then hexS (v / 16) else hexS (v % 16)
def dumpS (ob : List Int) (i k : Int) : Int := if i < 0 ∨ ob.length ≤ 4 * i ∨ k < 0 ∨ 27 ≤ k then -1 else if k < 4 then decS (4 * i) k else if k = 4 then 58 else if k < 17 then colS (ob.getD (4 * i + (k - 5) / 3).toNat 0) ((k - 5) % 3) else if k = 17 ∨ k = 22 then 32 else if k < 23 then asS (ob.getD (4 * i + k - 18).toNat 0) else othS (ob.getD (4 * i + k - 23).toNat 0)
def dd (p : Int) : Nat → Int
  | 0 => p
  | k + 1 => dd p k / 10
theorem dd_le {p : Int} (h : 0 ≤ p ∧ p ≤ 100000) : ∀ k, 0 ≤ dd p k ∧ dd p k ≤ 100000
  | 0 => h
  | k + 1 => by
    have := dd_le h k
    simp only [dd]
    omega
set_option maxHeartbeats 4000000 in
set_option maxRecDepth 100000 in
theorem kX2_hexDigit (l : Launch) (D : va_G) (ac : Nat → ClassId) {sh : Nat → Nat × Nat} {rf : Nat → Nat → Option Nat} {mem : Nat → Nat → Int} (d : Int) (hp : 0 ≤ d ∧ d < 16) : gMet l D ac mX2_hexDigit 0 [.int (iI d)] 0 0 sh rf mem (pP sh rf mem (fun r => r = hexS d)) := by
  refine gMet.mk (by decide) (by intro v hv; simp at hv; (try rcases hv with rfl) <;> rfl) (Nat.le_of_ble_eq_true rfl) (fun X hC hI => ?_)
  show gG X sh rf mem 0 0 0 [some (.int (iI d))] []
  refine g_iload_n hC dX2_hexDigit_0 rfl ?_
  refine g_bipush hC dX2_hexDigit_1 (by decide +kernel) ?_
  refine g_icmp_ge (tgt := 13) hC dX2_hexDigit_3 (by decide) ⟨by omega, by omega⟩ ⟨by omega, by omega⟩ (fun h3 => ?_) (fun h3 => ?_)
  · refine g_bipush hC dX2_hexDigit_13 (by decide +kernel) ?_
    refine g_iload_n hC dX2_hexDigit_15 rfl ?_
    refine g_iadd hC dX2_hexDigit_16 ?_
    refine g_bipush hC dX2_hexDigit_17 (by decide +kernel) ?_
    refine g_isub hC dX2_hexDigit_19 ?_
    refine g_iret hC hI rfl dX2_hexDigit_20 (Nat.le_of_ble_eq_true rfl) (Nat.le_of_ble_eq_true rfl) ⟨rfl, rfl, rfl, _, rfl, ?_⟩
    first | (rw [hexS, if_pos (by omega)]) | (rw [hexS, if_neg (by omega)]; omega)
  · refine g_bipush hC dX2_hexDigit_6 (by decide +kernel) ?_
    refine g_iload_n hC dX2_hexDigit_8 rfl ?_
    refine g_iadd hC dX2_hexDigit_9 ?_
    refine g_goto (tgt := 20) hC dX2_hexDigit_10 (by decide) ?_
    refine g_iret hC hI rfl dX2_hexDigit_20 (Nat.le_of_ble_eq_true rfl) (Nat.le_of_ble_eq_true rfl) ⟨rfl, rfl, rfl, _, rfl, ?_⟩
    first | (rw [hexS, if_pos (by omega)]) | (rw [hexS, if_neg (by omega)]; omega)
set_option maxHeartbeats 4000000 in
set_option maxRecDepth 100000 in
theorem kX2_asSign (l : Launch) (D : va_G) (ac : Nat → ClassId) {sh : Nat → Nat × Nat} {rf : Nat → Nat → Option Nat} {mem : Nat → Nat → Int} (v : Int) (hp : inR v) : gMet l D ac mX2_asSign 1 [.int (iI v)] 0 0 sh rf mem (pP sh rf mem (fun r => r = asS v)) := by
  refine gMet.mk (by decide) (by intro v hv; simp at hv; (try rcases hv with rfl) <;> rfl) (Nat.le_of_ble_eq_true rfl) (fun X hC hI => ?_)
  show gG X sh rf mem 0 0 0 [some (.int (iI v))] []
  have hp9 := hp
  obtain ⟨hp1, hp2⟩ := hp
  refine g_iload_n hC dX2_asSign_0 rfl ?_
  refine g_SPn hC (kX9_isSign (gl X) (gD X) (gac X) v hp9) csX9_isSign lkX2_38 rfl rfl (Nat.le_of_ble_eq_true rfl) (hI.fit (Nat.le_of_ble_eq_true rfl) (Nat.le_of_ble_eq_true rfl) (Nat.le_of_ble_eq_true rfl)) dX2_asSign_1 (fun x1 hx1 => ?_)
  refine g_if_eq (tgt := 11) hC dX2_asSign_4 (by decide) ⟨by omega, by omega⟩ (fun h4 => ?_) (fun h4 => ?_)
  · refine g_bipush hC dX2_asSign_11 (by decide +kernel) ?_
    refine g_iret hC hI rfl dX2_asSign_13 (Nat.le_of_ble_eq_true rfl) (Nat.le_of_ble_eq_true rfl) ⟨rfl, rfl, rfl, _, rfl, ?_⟩
    first | (rw [asS, if_pos (by omega)]) | (rw [asS, if_neg (by omega)])
  · refine g_iload_n hC dX2_asSign_7 rfl ?_
    refine g_goto (tgt := 13) hC dX2_asSign_8 (by decide) ?_
    refine g_iret hC hI rfl dX2_asSign_13 (Nat.le_of_ble_eq_true rfl) (Nat.le_of_ble_eq_true rfl) ⟨rfl, rfl, rfl, _, rfl, ?_⟩
    first | (rw [asS, if_pos (by omega)]) | (rw [asS, if_neg (by omega)])
set_option maxHeartbeats 4000000 in
set_option maxRecDepth 100000 in
theorem kX2_inOtherCode (l : Launch) (D : va_G) (ac : Nat → ClassId) {sh : Nat → Nat × Nat} {rf : Nat → Nat → Option Nat} {mem : Nat → Nat → Int} (v : Int) (hp : inR v) : gMet l D ac mX2_inOtherCode 0 [.int (iI v)] 0 0 sh rf mem (pP sh rf mem (fun r => r = othS v)) := by
  refine gMet.mk (by decide) (by intro v hv; simp at hv; (try rcases hv with rfl) <;> rfl) (Nat.le_of_ble_eq_true rfl) (fun X hC hI => ?_)
  show gG X sh rf mem 0 0 0 [some (.int (iI v))] []
  obtain ⟨hp1, hp2⟩ := hp
  have J92 : ¬ (193 ≤ v ∧ v ≤ 201) → ¬ (209 ≤ v ∧ v ≤ 217) → ¬ (226 ≤ v ∧ v ≤ 233) → ¬ (240 ≤ v ∧ v ≤ 249) → gG X sh rf mem 0 0 92 [some (.int (iI v))] [] := by
    intro c23 c46 c69 c92
    refine g_iload_n hC dX2_inOtherCode_92 rfl ?_
    refine g_bipush hC dX2_inOtherCode_93 (by decide +kernel) ?_
    refine g_icmp_ne (tgt := 103) hC dX2_inOtherCode_95 (by decide) ⟨by omega, by omega⟩ ⟨by omega, by omega⟩ (fun h95 => ?_) (fun h95 => ?_)
    · refine g_bipush hC dX2_inOtherCode_103 (by decide +kernel) ?_
      refine g_iret hC hI rfl dX2_inOtherCode_105 (Nat.le_of_ble_eq_true rfl) (Nat.le_of_ble_eq_true rfl) ⟨rfl, rfl, rfl, _, rfl, ?_⟩
      first
      | (rw [othS, if_pos (by omega)]; omega)
      | (rw [othS, if_neg (by omega), if_pos (by omega)]; omega)
      | (rw [othS, if_neg (by omega), if_neg (by omega), if_pos (by omega)]; omega)
      | (rw [othS, if_neg (by omega), if_neg (by omega), if_neg (by omega), if_pos (by omega)]; omega)
      | (rw [othS, if_neg (by omega), if_neg (by omega), if_neg (by omega), if_neg (by omega), if_pos (by omega)])
      | (rw [othS, if_neg (by omega), if_neg (by omega), if_neg (by omega), if_neg (by omega), if_neg (by omega)])
    · refine g_bipush hC dX2_inOtherCode_98 (by decide +kernel) ?_
      refine g_goto (tgt := 105) hC dX2_inOtherCode_100 (by decide) ?_
      refine g_iret hC hI rfl dX2_inOtherCode_105 (Nat.le_of_ble_eq_true rfl) (Nat.le_of_ble_eq_true rfl) ⟨rfl, rfl, rfl, _, rfl, ?_⟩
      first
      | (rw [othS, if_pos (by omega)]; omega)
      | (rw [othS, if_neg (by omega), if_pos (by omega)]; omega)
      | (rw [othS, if_neg (by omega), if_neg (by omega), if_pos (by omega)]; omega)
      | (rw [othS, if_neg (by omega), if_neg (by omega), if_neg (by omega), if_pos (by omega)]; omega)
      | (rw [othS, if_neg (by omega), if_neg (by omega), if_neg (by omega), if_neg (by omega), if_pos (by omega)])
      | (rw [othS, if_neg (by omega), if_neg (by omega), if_neg (by omega), if_neg (by omega), if_neg (by omega)])
  have J69 : ¬ (193 ≤ v ∧ v ≤ 201) → ¬ (209 ≤ v ∧ v ≤ 217) → ¬ (226 ≤ v ∧ v ≤ 233) → gG X sh rf mem 0 0 69 [some (.int (iI v))] [] := by
    intro c23 c46 c69
    refine g_iload_n hC dX2_inOtherCode_69 rfl ?_
    refine g_sipush hC dX2_inOtherCode_70 (by decide +kernel) ?_
    refine g_icmp_lt (tgt := 92) hC dX2_inOtherCode_73 (by decide) ⟨by omega, by omega⟩ ⟨by omega, by omega⟩ (fun h73 => ?_) (fun h73 => ?_)
    · exact J92 (by omega) (by omega) (by omega) (by omega)
    · refine g_iload_n hC dX2_inOtherCode_76 rfl ?_
      refine g_sipush hC dX2_inOtherCode_77 (by decide +kernel) ?_
      refine g_icmp_gt (tgt := 92) hC dX2_inOtherCode_80 (by decide) ⟨by omega, by omega⟩ ⟨by omega, by omega⟩ (fun h80 => ?_) (fun h80 => ?_)
      · exact J92 (by omega) (by omega) (by omega) (by omega)
      · refine g_bipush hC dX2_inOtherCode_83 (by decide +kernel) ?_
        refine g_iload_n hC dX2_inOtherCode_85 rfl ?_
        refine g_iadd hC dX2_inOtherCode_86 ?_
        refine g_sipush hC dX2_inOtherCode_87 (by decide +kernel) ?_
        refine g_isub hC dX2_inOtherCode_90 ?_
        refine g_iret hC hI rfl dX2_inOtherCode_91 (Nat.le_of_ble_eq_true rfl) (Nat.le_of_ble_eq_true rfl) ⟨rfl, rfl, rfl, _, rfl, ?_⟩
        first
        | (rw [othS, if_pos (by omega)]; omega)
        | (rw [othS, if_neg (by omega), if_pos (by omega)]; omega)
        | (rw [othS, if_neg (by omega), if_neg (by omega), if_pos (by omega)]; omega)
        | (rw [othS, if_neg (by omega), if_neg (by omega), if_neg (by omega), if_pos (by omega)]; omega)
        | (rw [othS, if_neg (by omega), if_neg (by omega), if_neg (by omega), if_neg (by omega), if_pos (by omega)])
        | (rw [othS, if_neg (by omega), if_neg (by omega), if_neg (by omega), if_neg (by omega), if_neg (by omega)])
  have J46 : ¬ (193 ≤ v ∧ v ≤ 201) → ¬ (209 ≤ v ∧ v ≤ 217) → gG X sh rf mem 0 0 46 [some (.int (iI v))] [] := by
    intro c23 c46
    refine g_iload_n hC dX2_inOtherCode_46 rfl ?_
    refine g_sipush hC dX2_inOtherCode_47 (by decide +kernel) ?_
    refine g_icmp_lt (tgt := 69) hC dX2_inOtherCode_50 (by decide) ⟨by omega, by omega⟩ ⟨by omega, by omega⟩ (fun h50 => ?_) (fun h50 => ?_)
    · exact J69 (by omega) (by omega) (by omega)
    · refine g_iload_n hC dX2_inOtherCode_53 rfl ?_
      refine g_sipush hC dX2_inOtherCode_54 (by decide +kernel) ?_
      refine g_icmp_gt (tgt := 69) hC dX2_inOtherCode_57 (by decide) ⟨by omega, by omega⟩ ⟨by omega, by omega⟩ (fun h57 => ?_) (fun h57 => ?_)
      · exact J69 (by omega) (by omega) (by omega)
      · refine g_bipush hC dX2_inOtherCode_60 (by decide +kernel) ?_
        refine g_iload_n hC dX2_inOtherCode_62 rfl ?_
        refine g_iadd hC dX2_inOtherCode_63 ?_
        refine g_sipush hC dX2_inOtherCode_64 (by decide +kernel) ?_
        refine g_isub hC dX2_inOtherCode_67 ?_
        refine g_iret hC hI rfl dX2_inOtherCode_68 (Nat.le_of_ble_eq_true rfl) (Nat.le_of_ble_eq_true rfl) ⟨rfl, rfl, rfl, _, rfl, ?_⟩
        first
        | (rw [othS, if_pos (by omega)]; omega)
        | (rw [othS, if_neg (by omega), if_pos (by omega)]; omega)
        | (rw [othS, if_neg (by omega), if_neg (by omega), if_pos (by omega)]; omega)
        | (rw [othS, if_neg (by omega), if_neg (by omega), if_neg (by omega), if_pos (by omega)]; omega)
        | (rw [othS, if_neg (by omega), if_neg (by omega), if_neg (by omega), if_neg (by omega), if_pos (by omega)])
        | (rw [othS, if_neg (by omega), if_neg (by omega), if_neg (by omega), if_neg (by omega), if_neg (by omega)])
  have J23 : ¬ (193 ≤ v ∧ v ≤ 201) → gG X sh rf mem 0 0 23 [some (.int (iI v))] [] := by
    intro c23
    refine g_iload_n hC dX2_inOtherCode_23 rfl ?_
    refine g_sipush hC dX2_inOtherCode_24 (by decide +kernel) ?_
    refine g_icmp_lt (tgt := 46) hC dX2_inOtherCode_27 (by decide) ⟨by omega, by omega⟩ ⟨by omega, by omega⟩ (fun h27 => ?_) (fun h27 => ?_)
    · exact J46 (by omega) (by omega)
    · refine g_iload_n hC dX2_inOtherCode_30 rfl ?_
      refine g_sipush hC dX2_inOtherCode_31 (by decide +kernel) ?_
      refine g_icmp_gt (tgt := 46) hC dX2_inOtherCode_34 (by decide) ⟨by omega, by omega⟩ ⟨by omega, by omega⟩ (fun h34 => ?_) (fun h34 => ?_)
      · exact J46 (by omega) (by omega)
      · refine g_bipush hC dX2_inOtherCode_37 (by decide +kernel) ?_
        refine g_iload_n hC dX2_inOtherCode_39 rfl ?_
        refine g_iadd hC dX2_inOtherCode_40 ?_
        refine g_sipush hC dX2_inOtherCode_41 (by decide +kernel) ?_
        refine g_isub hC dX2_inOtherCode_44 ?_
        refine g_iret hC hI rfl dX2_inOtherCode_45 (Nat.le_of_ble_eq_true rfl) (Nat.le_of_ble_eq_true rfl) ⟨rfl, rfl, rfl, _, rfl, ?_⟩
        first
        | (rw [othS, if_pos (by omega)]; omega)
        | (rw [othS, if_neg (by omega), if_pos (by omega)]; omega)
        | (rw [othS, if_neg (by omega), if_neg (by omega), if_pos (by omega)]; omega)
        | (rw [othS, if_neg (by omega), if_neg (by omega), if_neg (by omega), if_pos (by omega)]; omega)
        | (rw [othS, if_neg (by omega), if_neg (by omega), if_neg (by omega), if_neg (by omega), if_pos (by omega)])
        | (rw [othS, if_neg (by omega), if_neg (by omega), if_neg (by omega), if_neg (by omega), if_neg (by omega)])
  refine g_iload_n hC dX2_inOtherCode_0 rfl ?_
  refine g_sipush hC dX2_inOtherCode_1 (by decide +kernel) ?_
  refine g_icmp_lt (tgt := 23) hC dX2_inOtherCode_4 (by decide) ⟨by omega, by omega⟩ ⟨by omega, by omega⟩ (fun h4 => ?_) (fun h4 => ?_)
  · exact J23 (by omega)
  · refine g_iload_n hC dX2_inOtherCode_7 rfl ?_
    refine g_sipush hC dX2_inOtherCode_8 (by decide +kernel) ?_
    refine g_icmp_gt (tgt := 23) hC dX2_inOtherCode_11 (by decide) ⟨by omega, by omega⟩ ⟨by omega, by omega⟩ (fun h11 => ?_) (fun h11 => ?_)
    · exact J23 (by omega)
    · refine g_bipush hC dX2_inOtherCode_14 (by decide +kernel) ?_
      refine g_iload_n hC dX2_inOtherCode_16 rfl ?_
      refine g_iadd hC dX2_inOtherCode_17 ?_
      refine g_sipush hC dX2_inOtherCode_18 (by decide +kernel) ?_
      refine g_isub hC dX2_inOtherCode_21 ?_
      refine g_iret hC hI rfl dX2_inOtherCode_22 (Nat.le_of_ble_eq_true rfl) (Nat.le_of_ble_eq_true rfl) ⟨rfl, rfl, rfl, _, rfl, ?_⟩
      first
      | (rw [othS, if_pos (by omega)]; omega)
      | (rw [othS, if_neg (by omega), if_pos (by omega)]; omega)
      | (rw [othS, if_neg (by omega), if_neg (by omega), if_pos (by omega)]; omega)
      | (rw [othS, if_neg (by omega), if_neg (by omega), if_neg (by omega), if_pos (by omega)]; omega)
      | (rw [othS, if_neg (by omega), if_neg (by omega), if_neg (by omega), if_neg (by omega), if_pos (by omega)])
      | (rw [othS, if_neg (by omega), if_neg (by omega), if_neg (by omega), if_neg (by omega), if_neg (by omega)])
set_option maxHeartbeats 4000000 in
set_option maxRecDepth 100000 in
theorem kX2_decimalDigit (l : Launch) (D : va_G) (ac : Nat → ClassId) {sh : Nat → Nat × Nat} {rf : Nat → Nat → Option Nat} {mem : Nat → Nat → Int} (p k : Int) (hp : 0 ≤ p ∧ p ≤ 100000) (hk : 0 ≤ k ∧ k ≤ 3) : gMet l D ac mX2_decimalDigit 0 [.int (iI p), .int (iI k)] 0 0 sh rf mem (pP sh rf mem (fun r => r = decS p k)) := by
  refine gMet.mk (by decide) (by intro v hv; simp at hv; (try rcases hv with rfl | rfl) <;> rfl) (Nat.le_of_ble_eq_true rfl) (fun X hC hI => ?_)
  show gG X sh rf mem 0 0 0 [some (.int (iI p)), some (.int (iI k)), none, none] []
  have J4 : ∀ (t j : Nat), k + j ≤ 3 → 3 < k + j + t → gG X sh rf mem 0 0 4 [some (.int (iI p)), some (.int (iI k)), some (.int (iI (dd p j))), some (.int (iI (k + j)))] [] := by
    intro t
    induction t with
    | zero => intro j j1 j2; omega
    | succ t ih =>
      intro j j1 j2
      have hdd := dd_le hp j
      refine g_iload_n hC dX2_decimalDigit_4 rfl ?_
      refine g_iconst hC dX2_decimalDigit_5 ?_
      refine g_icmp_ge (tgt := 20) hC dX2_decimalDigit_6 (by decide) ⟨by omega, by omega⟩ ⟨by omega, by omega⟩ (fun h6 => ?_) (fun h6 => ?_)
      · refine g_bipush hC dX2_decimalDigit_20 (by decide +kernel) ?_
        refine g_iload_n hC dX2_decimalDigit_22 rfl ?_
        refine g_bipush hC dX2_decimalDigit_23 (by decide +kernel) ?_
        refine g_irem hC dX2_decimalDigit_25 (by omega) (by omega) (by omega) (by omega) ?_
        refine g_iadd hC dX2_decimalDigit_26 ?_
        refine g_iret hC hI rfl dX2_decimalDigit_27 (Nat.le_of_ble_eq_true rfl) (Nat.le_of_ble_eq_true rfl) ⟨rfl, rfl, rfl, _, rfl, ?_⟩
        rcases (show k = 0 ∧ j = 3 ∨ k = 1 ∧ j = 2 ∨ k = 2 ∧ j = 1 ∨ k = 3 ∧ j = 0 by omega) with ⟨e1, e2⟩ | ⟨e1, e2⟩ | ⟨e1, e2⟩ | ⟨e1, e2⟩ <;> subst e1 <;> subst e2 <;> simp only [dd, decS] <;> simp <;> omega
      · refine g_iload_n hC dX2_decimalDigit_9 rfl ?_
        refine g_bipush hC dX2_decimalDigit_10 (by decide +kernel) ?_
        refine g_idiv hC dX2_decimalDigit_12 (by omega) (by omega) (by omega) (by omega) ?_
        refine g_istore_n hC 2 rfl dX2_decimalDigit_13 (Nat.le_of_ble_eq_true rfl) ?_
        dsimp only [List.set]
        refine g_iinc hC dX2_decimalDigit_14 rfl ?_
        dsimp only [List.set]
        refine g_goto (tgt := 4) hC dX2_decimalDigit_17 (by decide) ?_
        first | (have z := J4 4 0 (by omega) (by omega); rw [Int.natCast_zero, Int.add_zero] at z; exact z) | (have z := ih (j + 1) (by omega) (by omega); rw [show k + ((j + 1 : Nat) : Int) = k + j + 1 by omega] at z; exact z)
  refine g_iload_n hC dX2_decimalDigit_0 rfl ?_
  refine g_istore_n hC 2 rfl dX2_decimalDigit_1 (Nat.le_of_ble_eq_true rfl) ?_
  dsimp only [List.set]
  refine g_iload_n hC dX2_decimalDigit_2 rfl ?_
  refine g_istore_n hC 3 rfl dX2_decimalDigit_3 (Nat.le_of_ble_eq_true rfl) ?_
  dsimp only [List.set]
  first | (have z := J4 4 0 (by omega) (by omega); rw [Int.natCast_zero, Int.add_zero] at z; exact z) | (have z := ih (j + 1) (by omega) (by omega); rw [show k + ((j + 1 : Nat) : Int) = k + j + 1 by omega] at z; exact z)
set_option maxHeartbeats 4000000 in
set_option maxRecDepth 100000 in
theorem kX2_byteColumn (l : Launch) (D : va_G) (ac : Nat → ClassId) {sh : Nat → Nat × Nat} {rf : Nat → Nat → Option Nat} {mem : Nat → Nat → Int} (a a0 : Nat) (ob : List Int) (p c : Int) (hO : OcO sh rf a a0) (hv : OcV mem a a0 ob) (hp : 0 ≤ p ∧ p ≤ 1000) (hc : 0 ≤ c ∧ c < 12) : gMet l D ac mX2_byteColumn 3 [.ref a, .int (iI p), .int (iI c)] 0 0 sh rf mem (pP sh rf mem (fun r => r = colS (ob.getD (p + c / 3).toNat 0) (c % 3))) := by
  refine gMet.mk (by decide) (by intro v hv; simp at hv; (try rcases hv with rfl | rfl | rfl) <;> rfl) (Nat.le_of_ble_eq_true rfl) (fun X hC hI => ?_)
  show gG X sh rf mem 0 0 0 [some (.ref a), some (.int (iI p)), some (.int (iI c)), none] []
  have hO9 := hO
  have hv9 := hv
  obtain ⟨ho, hr0, hs0⟩ := hO
  obtain ⟨hv1, hv2, hv3⟩ := hv
  refine g_aload_n hC dX2_byteColumn_0 rfl ?_
  refine g_iload_n hC dX2_byteColumn_1 rfl ?_
  refine g_iload_n hC dX2_byteColumn_2 rfl ?_
  refine g_iconst hC dX2_byteColumn_3 ?_
  refine g_idiv hC dX2_byteColumn_4 (by omega) (by omega) (by omega) (by omega) ?_
  refine g_iadd hC dX2_byteColumn_5 ?_
  refine g_VP hC (kX5_valueAt (gl X) (gD X) (gac X) a a0 ob _ hO9 hv9 ⟨by omega, by omega⟩) cvX5_valueAt lkX2_25 (by assumption) rfl rfl (Nat.le_of_ble_eq_true rfl) (hI.fit (Nat.le_of_ble_eq_true rfl) (Nat.le_of_ble_eq_true rfl) (Nat.le_of_ble_eq_true rfl)) dX2_byteColumn_6 (fun x6 hx6 => ?_)
  have e6 : x6 = ob.getD (p + c / 3).toNat 0 := by rcases hx6.2.2 with q | q <;> omega
  refine g_istore_n hC 3 rfl dX2_byteColumn_9 (Nat.le_of_ble_eq_true rfl) ?_
  dsimp only [List.set]
  refine g_iload_n hC dX2_byteColumn_10 rfl ?_
  refine g_iconst hC dX2_byteColumn_11 ?_
  refine g_irem hC dX2_byteColumn_12 (by omega) (by omega) (by omega) (by omega) ?_
  rcases (show c % 3 = 0 ∨ c % 3 = 1 ∨ c % 3 = 2 by omega) with s13 | s13 | s13
  · refine g_lookup (off := 27) (tgt := 40) hC dX2_byteColumn_13 (0) s13 ⟨by decide, by decide⟩ (by decide +kernel) (by decide +kernel) (by decide) ?_
    refine g_bipush hC dX2_byteColumn_40 (by decide +kernel) ?_
    refine g_iret hC hI rfl dX2_byteColumn_42 (Nat.le_of_ble_eq_true rfl) (Nat.le_of_ble_eq_true rfl) ⟨rfl, rfl, rfl, _, rfl, ?_⟩
    rw [colS, s13, if_pos rfl]
  · refine g_lookup (off := 30) (tgt := 43) hC dX2_byteColumn_13 (1) s13 ⟨by decide, by decide⟩ (by decide +kernel) (by decide +kernel) (by decide) ?_
    refine g_iload_n hC dX2_byteColumn_43 rfl ?_
    refine g_iconst hC dX2_byteColumn_44 ?_
    refine g_ishr hC dX2_byteColumn_45 ?_
    refine g_topI (iI_shr4 (by omega) (by omega)) ?_
    refine g_SP hC (kX2_hexDigit (gl X) (gD X) (gac X) _ ⟨by omega, by omega⟩) csX2_hexDigit lkX2_35 rfl rfl (Nat.le_of_ble_eq_true rfl) (hI.fit (Nat.le_of_ble_eq_true rfl) (Nat.le_of_ble_eq_true rfl) (Nat.le_of_ble_eq_true rfl)) dX2_byteColumn_46 (fun x46 hx46 => ?_)
    refine g_iret hC hI rfl dX2_byteColumn_49 (Nat.le_of_ble_eq_true rfl) (Nat.le_of_ble_eq_true rfl) ⟨rfl, rfl, rfl, _, rfl, ?_⟩
    rw [hx46, colS, s13, if_neg (by decide), if_pos rfl, e6]
  · refine g_lookup (off := 37) (tgt := 50) hC dX2_byteColumn_13 (2) s13 ⟨by decide, by decide⟩ (by decide +kernel) (by decide +kernel) (by decide) ?_
    refine g_iload_n hC dX2_byteColumn_50 rfl ?_
    refine g_bipush hC dX2_byteColumn_51 (by decide +kernel) ?_
    refine g_iand hC dX2_byteColumn_53 ?_
    refine g_topI (iI_and15 _) ?_
    refine g_SP hC (kX2_hexDigit (gl X) (gD X) (gac X) _ ⟨by omega, by omega⟩) csX2_hexDigit lkX2_35 rfl rfl (Nat.le_of_ble_eq_true rfl) (hI.fit (Nat.le_of_ble_eq_true rfl) (Nat.le_of_ble_eq_true rfl) (Nat.le_of_ble_eq_true rfl)) dX2_byteColumn_54 (fun x54 hx54 => ?_)
    refine g_iret hC hI rfl dX2_byteColumn_57 (Nat.le_of_ble_eq_true rfl) (Nat.le_of_ble_eq_true rfl) ⟨rfl, rfl, rfl, _, rfl, ?_⟩
    rw [hx54, colS, s13, if_neg (by decide), if_neg (by decide), e6]
set_option maxHeartbeats 4000000 in
set_option maxRecDepth 100000 in
theorem kX2_signAt (l : Launch) (D : va_G) (ac : Nat → ClassId) {sh : Nat → Nat × Nat} {rf : Nat → Nat → Option Nat} {mem : Nat → Nat → Int} (a a0 : Nat) (ob : List Int) (i k : Int) (hO : OcO sh rf a a0) (hv : OcV mem a a0 ob) (h4 : ob.length % 4 = 0) (hi : inR i) (hk : inR k) : gMet l D ac mX2_signAt 4 [.ref a, .int (iI i), .int (iI k)] 0 0 sh rf mem (pP sh rf mem (fun r => r = dumpS ob i k)) := by
  refine gMet.mk (by decide) (by intro v hv; simp at hv; (try rcases hv with rfl | rfl | rfl) <;> rfl) (Nat.le_of_ble_eq_true rfl) (fun X hC hI => ?_)
  show gG X sh rf mem 0 0 0 [some (.ref a), some (.int (iI i)), some (.int (iI k)), none] []
  have hO9 := hO
  have hv9 := hv
  obtain ⟨ho, hr0, hs0⟩ := hO
  obtain ⟨hv1, hv2, hv3⟩ := hv
  obtain ⟨hi1, hi2⟩ := hi
  obtain ⟨hk1, hk2⟩ := hk
  have J26 : 0 ≤ i → 4 * i < ob.length → 0 ≤ k → k < 27 → gG X sh rf mem 0 0 26 [some (.ref a), some (.int (iI i)), some (.int (iI k)), none] [] := by
    intro c1 c2 c3 c4
    have hD : dumpS ob i k = (if k < 4 then decS (4 * i) k else if k = 4 then 58 else if k < 17 then colS (ob.getD (4 * i + (k - 5) / 3).toNat 0) ((k - 5) % 3) else if k = 17 ∨ k = 22 then 32 else if k < 23 then asS (ob.getD (4 * i + k - 18).toNat 0) else othS (ob.getD (4 * i + k - 23).toNat 0)) := by rw [dumpS, if_neg (by omega)]
    refine g_iload_n hC dX2_signAt_26 rfl ?_
    refine g_iconst hC dX2_signAt_27 ?_
    refine g_imul hC dX2_signAt_28 ?_
    refine g_istore_n hC 3 rfl dX2_signAt_29 (Nat.le_of_ble_eq_true rfl) ?_
    dsimp only [List.set]
    refine g_iload_n hC dX2_signAt_30 rfl ?_
    refine g_iconst hC dX2_signAt_31 ?_
    refine g_icmp_ge (tgt := 41) hC dX2_signAt_32 (by decide) ⟨by omega, by omega⟩ ⟨by omega, by omega⟩ (fun h32 => ?_) (fun h32 => ?_)
    · refine g_iload_n hC dX2_signAt_41 rfl ?_
      refine g_iconst hC dX2_signAt_42 ?_
      refine g_icmp_ne (tgt := 49) hC dX2_signAt_43 (by decide) ⟨by omega, by omega⟩ ⟨by omega, by omega⟩ (fun h43 => ?_) (fun h43 => ?_)
      · refine g_iload_n hC dX2_signAt_49 rfl ?_
        refine g_bipush hC dX2_signAt_50 (by decide +kernel) ?_
        refine g_icmp_ge (tgt := 64) hC dX2_signAt_52 (by decide) ⟨by omega, by omega⟩ ⟨by omega, by omega⟩ (fun h52 => ?_) (fun h52 => ?_)
        · refine g_iload_n hC dX2_signAt_64 rfl ?_
          refine g_bipush hC dX2_signAt_65 (by decide +kernel) ?_
          refine g_icmp_eq (tgt := 76) hC dX2_signAt_67 (by decide) ⟨by omega, by omega⟩ ⟨by omega, by omega⟩ (fun h67 => ?_) (fun h67 => ?_)
          · refine g_bipush hC dX2_signAt_76 (by decide +kernel) ?_
            refine g_iret hC hI rfl dX2_signAt_78 (Nat.le_of_ble_eq_true rfl) (Nat.le_of_ble_eq_true rfl) ⟨rfl, rfl, rfl, _, rfl, ?_⟩
            rw [hD, if_neg (by omega), if_neg (by omega), if_neg (by omega), if_pos (by omega)]
          · refine g_iload_n hC dX2_signAt_70 rfl ?_
            refine g_bipush hC dX2_signAt_71 (by decide +kernel) ?_
            refine g_icmp_ne (tgt := 79) hC dX2_signAt_73 (by decide) ⟨by omega, by omega⟩ ⟨by omega, by omega⟩ (fun h73 => ?_) (fun h73 => ?_)
            · refine g_iload_n hC dX2_signAt_79 rfl ?_
              refine g_bipush hC dX2_signAt_80 (by decide +kernel) ?_
              refine g_icmp_ge (tgt := 101) hC dX2_signAt_82 (by decide) ⟨by omega, by omega⟩ ⟨by omega, by omega⟩ (fun h82 => ?_) (fun h82 => ?_)
              · refine g_aload_n hC dX2_signAt_101 rfl ?_
                refine g_iload_n hC dX2_signAt_102 rfl ?_
                refine g_iload_n hC dX2_signAt_103 rfl ?_
                refine g_iadd hC dX2_signAt_104 ?_
                refine g_bipush hC dX2_signAt_105 (by decide +kernel) ?_
                refine g_isub hC dX2_signAt_107 ?_
                refine g_VP hC (kX5_valueAt (gl X) (gD X) (gac X) a a0 ob _ hO9 hv9 ⟨by omega, by omega⟩) cvX5_valueAt lkX2_25 (by assumption) rfl rfl (Nat.le_of_ble_eq_true rfl) (hI.fit (Nat.le_of_ble_eq_true rfl) (Nat.le_of_ble_eq_true rfl) (Nat.le_of_ble_eq_true rfl)) dX2_signAt_108 (fun x108 hx108 => ?_)
                refine g_SP hC (kX2_inOtherCode (gl X) (gD X) (gac X) x108 ⟨by omega, by omega⟩) csX2_inOtherCode lkX2_32 rfl rfl (Nat.le_of_ble_eq_true rfl) (hI.fit (Nat.le_of_ble_eq_true rfl) (Nat.le_of_ble_eq_true rfl) (Nat.le_of_ble_eq_true rfl)) dX2_signAt_111 (fun x111 hx111 => ?_)
                refine g_iret hC hI rfl dX2_signAt_114 (Nat.le_of_ble_eq_true rfl) (Nat.le_of_ble_eq_true rfl) ⟨rfl, rfl, rfl, _, rfl, ?_⟩
                first
                | (rw [hD, if_neg (by omega), if_neg (by omega), if_neg (by omega), if_neg (by omega), if_pos (by omega), hx95]
                   congr 1
                   rw [show (4 * i + k - 18).toNat = (i * 4 + k - 18).toNat by omega]
                   rcases hx92.2.2 with q | q <;> omega)
                | (rw [hD, if_neg (by omega), if_neg (by omega), if_neg (by omega), if_neg (by omega), if_neg (by omega), hx111]
                   congr 1
                   rw [show (4 * i + k - 23).toNat = (i * 4 + k - 23).toNat by omega]
                   rcases hx108.2.2 with q | q <;> omega)
              · refine g_aload_n hC dX2_signAt_85 rfl ?_
                refine g_iload_n hC dX2_signAt_86 rfl ?_
                refine g_iload_n hC dX2_signAt_87 rfl ?_
                refine g_iadd hC dX2_signAt_88 ?_
                refine g_bipush hC dX2_signAt_89 (by decide +kernel) ?_
                refine g_isub hC dX2_signAt_91 ?_
                refine g_VP hC (kX5_valueAt (gl X) (gD X) (gac X) a a0 ob _ hO9 hv9 ⟨by omega, by omega⟩) cvX5_valueAt lkX2_25 (by assumption) rfl rfl (Nat.le_of_ble_eq_true rfl) (hI.fit (Nat.le_of_ble_eq_true rfl) (Nat.le_of_ble_eq_true rfl) (Nat.le_of_ble_eq_true rfl)) dX2_signAt_92 (fun x92 hx92 => ?_)
                refine g_SP hC (kX2_asSign (gl X) (gD X) (gac X) x92 ⟨by omega, by omega⟩) csX2_asSign lkX2_29 rfl rfl (Nat.le_of_ble_eq_true rfl) (hI.fit (Nat.le_of_ble_eq_true rfl) (Nat.le_of_ble_eq_true rfl) (Nat.le_of_ble_eq_true rfl)) dX2_signAt_95 (fun x95 hx95 => ?_)
                refine g_goto (tgt := 114) hC dX2_signAt_98 (by decide) ?_
                refine g_iret hC hI rfl dX2_signAt_114 (Nat.le_of_ble_eq_true rfl) (Nat.le_of_ble_eq_true rfl) ⟨rfl, rfl, rfl, _, rfl, ?_⟩
                first
                | (rw [hD, if_neg (by omega), if_neg (by omega), if_neg (by omega), if_neg (by omega), if_pos (by omega), hx95]
                   congr 1
                   rw [show (4 * i + k - 18).toNat = (i * 4 + k - 18).toNat by omega]
                   rcases hx92.2.2 with q | q <;> omega)
                | (rw [hD, if_neg (by omega), if_neg (by omega), if_neg (by omega), if_neg (by omega), if_neg (by omega), hx111]
                   congr 1
                   rw [show (4 * i + k - 23).toNat = (i * 4 + k - 23).toNat by omega]
                   rcases hx108.2.2 with q | q <;> omega)
            · refine g_bipush hC dX2_signAt_76 (by decide +kernel) ?_
              refine g_iret hC hI rfl dX2_signAt_78 (Nat.le_of_ble_eq_true rfl) (Nat.le_of_ble_eq_true rfl) ⟨rfl, rfl, rfl, _, rfl, ?_⟩
              rw [hD, if_neg (by omega), if_neg (by omega), if_neg (by omega), if_pos (by omega)]
        · refine g_aload_n hC dX2_signAt_55 rfl ?_
          refine g_iload_n hC dX2_signAt_56 rfl ?_
          refine g_iload_n hC dX2_signAt_57 rfl ?_
          refine g_iconst hC dX2_signAt_58 ?_
          refine g_isub hC dX2_signAt_59 ?_
          refine g_SP hC (kX2_byteColumn (gl X) (gD X) (gac X) a a0 ob _ _ hO9 hv9 ⟨by omega, by omega⟩ ⟨by omega, by omega⟩) csX2_byteColumn lkX2_21 rfl rfl (Nat.le_of_ble_eq_true rfl) (hI.fit (Nat.le_of_ble_eq_true rfl) (Nat.le_of_ble_eq_true rfl) (Nat.le_of_ble_eq_true rfl)) dX2_signAt_60 (fun x60 hx60 => ?_)
          refine g_iret hC hI rfl dX2_signAt_63 (Nat.le_of_ble_eq_true rfl) (Nat.le_of_ble_eq_true rfl) ⟨rfl, rfl, rfl, _, rfl, ?_⟩
          rw [hD, if_neg (by omega), if_neg (by omega), if_pos (by omega), hx60, Int.mul_comm]
      · refine g_bipush hC dX2_signAt_46 (by decide +kernel) ?_
        refine g_iret hC hI rfl dX2_signAt_48 (Nat.le_of_ble_eq_true rfl) (Nat.le_of_ble_eq_true rfl) ⟨rfl, rfl, rfl, _, rfl, ?_⟩
        rw [hD, if_neg (by omega), if_pos (by omega)]
    · refine g_iload_n hC dX2_signAt_35 rfl ?_
      refine g_iload_n hC dX2_signAt_36 rfl ?_
      refine g_SP hC (kX2_decimalDigit (gl X) (gD X) (gac X) _ _ ⟨by omega, by omega⟩ ⟨by omega, by omega⟩) csX2_decimalDigit lkX2_17 rfl rfl (Nat.le_of_ble_eq_true rfl) (hI.fit (Nat.le_of_ble_eq_true rfl) (Nat.le_of_ble_eq_true rfl) (Nat.le_of_ble_eq_true rfl)) dX2_signAt_37 (fun x37 hx37 => ?_)
      refine g_iret hC hI rfl dX2_signAt_40 (Nat.le_of_ble_eq_true rfl) (Nat.le_of_ble_eq_true rfl) ⟨rfl, rfl, rfl, _, rfl, ?_⟩
      rw [hD, if_pos (by omega), hx37, Int.mul_comm]
  refine g_iload_n hC dX2_signAt_0 rfl ?_
  refine g_if_lt (tgt := 24) hC dX2_signAt_1 (by decide) ⟨by omega, by omega⟩ (fun h1 => ?_) (fun h1 => ?_)
  · refine g_iconst hC dX2_signAt_24 ?_
    refine g_iret hC hI rfl dX2_signAt_25 (Nat.le_of_ble_eq_true rfl) (Nat.le_of_ble_eq_true rfl) ⟨rfl, rfl, rfl, _, rfl, ?_⟩
    rw [dumpS, if_pos (by omega)]
  · refine g_iload_n hC dX2_signAt_4 rfl ?_
    refine g_aload_n hC dX2_signAt_5 rfl ?_
    refine g_VP hC (kX5_size (gl X) (gD X) (gac X) a a0 ob hO9 hv9) cvX5_size lkX2_9 (by assumption) rfl rfl (Nat.le_of_ble_eq_true rfl) (hI.fit (Nat.le_of_ble_eq_true rfl) (Nat.le_of_ble_eq_true rfl) (Nat.le_of_ble_eq_true rfl)) dX2_signAt_6 (fun x6 hx6 => ?_)
    subst hx6
    refine g_iconst hC dX2_signAt_9 ?_
    refine g_idiv hC dX2_signAt_10 (by omega) (by omega) (by omega) (by omega) ?_
    refine g_icmp_ge (tgt := 24) hC dX2_signAt_11 (by decide) ⟨by omega, by omega⟩ ⟨by omega, by omega⟩ (fun h11 => ?_) (fun h11 => ?_)
    · refine g_iconst hC dX2_signAt_24 ?_
      refine g_iret hC hI rfl dX2_signAt_25 (Nat.le_of_ble_eq_true rfl) (Nat.le_of_ble_eq_true rfl) ⟨rfl, rfl, rfl, _, rfl, ?_⟩
      rw [dumpS, if_pos (by omega)]
    · refine g_iload_n hC dX2_signAt_14 rfl ?_
      refine g_if_lt (tgt := 24) hC dX2_signAt_15 (by decide) ⟨by omega, by omega⟩ (fun h15 => ?_) (fun h15 => ?_)
      · refine g_iconst hC dX2_signAt_24 ?_
        refine g_iret hC hI rfl dX2_signAt_25 (Nat.le_of_ble_eq_true rfl) (Nat.le_of_ble_eq_true rfl) ⟨rfl, rfl, rfl, _, rfl, ?_⟩
        rw [dumpS, if_pos (by omega)]
      · refine g_iload_n hC dX2_signAt_18 rfl ?_
        refine g_bipush hC dX2_signAt_19 (by decide +kernel) ?_
        refine g_icmp_lt (tgt := 26) hC dX2_signAt_21 (by decide) ⟨by omega, by omega⟩ ⟨by omega, by omega⟩ (fun h21 => ?_) (fun h21 => ?_)
        · exact J26 (by omega) (by omega) (by omega) (by omega)
        · refine g_iconst hC dX2_signAt_24 ?_
          refine g_iret hC hI rfl dX2_signAt_25 (Nat.le_of_ble_eq_true rfl) (Nat.le_of_ble_eq_true rfl) ⟨rfl, rfl, rfl, _, rfl, ?_⟩
          rw [dumpS, if_pos (by omega)]
