/-! RecordSet: name, guard, records, END MARK -/
def RsO (sh : Nat → Nat × Nat) (rf : Nat → Nat → Option Nat) (a a0 : Nat) : Prop := sh a = (6, 0) ∧ rf a 0 = some a0 ∧ sh a0 = (12, 60)
def RsV (mem : Nat → Nat → Int) (a a0 : Nat) (n g : Int) (rs : List Int) (mk : Nat) : Prop := mem a 1 = n ∧ mem a 2 = g ∧ mem a 3 = rs.length ∧ mem a 4 = mk ∧ rs.length ≤ 60 ∧ mk ≤ rs.length ∧ 0 ≤ n ∧ n < 100 ∧ (g = 0 ∨ g = 1) ∧ ∀ i, i < rs.length → mem a0 i = rs.getD i 0
/-- the same, while the END MARK may lie behind the records -/
def RsW (mem : Nat → Nat → Int) (a a0 : Nat) (n g : Int) (rs : List Int) (mk : Nat) : Prop := mem a 1 = n ∧ mem a 2 = g ∧ mem a 3 = rs.length ∧ mem a 4 = mk ∧ rs.length ≤ 60 ∧ mk ≤ 60 ∧ 0 ≤ n ∧ n < 100 ∧ (g = 0 ∨ g = 1) ∧ ∀ i, i < rs.length → mem a0 i = rs.getD i 0
theorem RsV.w {mem : Nat → Nat → Int} {a a0 mk : Nat} {n g : Int} {rs : List Int} (h : RsV mem a a0 n g rs mk) : RsW mem a a0 n g rs mk := by
  obtain ⟨v1, v2, v3, v4, v5, v6, v7, v8, v9, v10⟩ := h
  exact ⟨v1, v2, v3, v4, v5, by omega, v7, v8, v9, v10⟩
theorem RsW.v {mem : Nat → Nat → Int} {a a0 mk : Nat} {n g : Int} {rs : List Int} (h : RsW mem a a0 n g rs mk) (hm : mk ≤ rs.length) : RsV mem a a0 n g rs mk := by
  obtain ⟨v1, v2, v3, v4, v5, v6, v7, v8, v9, v10⟩ := h
  exact ⟨v1, v2, v3, v4, v5, hm, v7, v8, v9, v10⟩
theorem RsO.ne {sh : Nat → Nat × Nat} {rf : Nat → Nat → Option Nat} {a a0 : Nat} (h : RsO sh rf a a0) : a ≠ a0 := by
  obtain ⟨h1, h2, h3⟩ := h
  rintro rfl
  simp_all
theorem getD_last {l : List Int} {v : Int} : (l ++ [v]).getD l.length 0 = v := by simp [List.getD_eq_getElem?_getD]
theorem getD_take {l : List Int} {n i : Nat} (h : i < n) : (l.take n).getD i 0 = l.getD i 0 := by simp [List.getD_eq_getElem?_getD, List.getElem?_take, h]
theorem RsW_add {sh : Nat → Nat × Nat} {rf : Nat → Nat → Option Nat} {mem mem1 : Nat → Nat → Int} {a a0 mk : Nat} {n g v : Int} {rs : List Int} (hO : RsO sh rf a a0) (hv : RsW mem a a0 n g rs mk) (h : rs.length < 60) (e : mem1 = gup (gup mem a0 rs.length v) a 3 (rs.length + 1)) : RsW mem1 a a0 n g (rs ++ [v]) mk ∧ Fr2 mem mem1 a a0 := by
  obtain ⟨v1, v2, v3, v4, v5, v6, v7, v8, v9, v10⟩ := hv
  have n1 := hO.ne
  have n2 := n1.symm
  subst e
  refine ⟨⟨?_, ?_, ?_, ?_, ?_, ?_, v7, v8, v9, ?_⟩, ?_⟩
  · rw [gup_k _ _ _ _ (by decide), gup_a _ _ _ _ n1]; exact v1
  · rw [gup_k _ _ _ _ (by decide), gup_a _ _ _ _ n1]; exact v2
  · rw [gup_s]; simp
  · rw [gup_k _ _ _ _ (by decide), gup_a _ _ _ _ n1]; exact v4
  · simp; omega
  · exact v6
  · intro i hi
    rw [gup_a _ _ _ _ n2]
    by_cases q : i = rs.length
    · subst q
      rw [gup_s, getD_last]
    · have q2 : i < rs.length := by simp at hi; omega
      rw [gup_k _ _ _ _ q, getD_app q2]
      exact v10 i q2
  · intro b b1 b2
    funext j
    rw [gup_a _ _ _ _ b1, gup_a _ _ _ _ b2]
/-- the values of a series; its list -/
def sv (v s : Int) : Nat → Int
  | 0 => v
  | k + 1 => sv v s k + s
def ser (v s : Int) : Nat → List Int
  | 0 => []
  | k + 1 => ser v s k ++ [sv v s k]
theorem ser_len (v s : Int) : ∀ k, (ser v s k).length = k
  | 0 => rfl
  | k + 1 => by simp [ser, ser_len v s k]
/-- the words of an import -/
def wds (ob : List Int) : Nat → List Int
  | 0 => []
  | k + 1 => wds ob k ++ [wd ob (4 + 4 * k)]
theorem wds_len (ob : List Int) : ∀ k, (wds ob k).length = k
  | 0 => rfl
  | k + 1 => by simp [wds, wds_len ob k]
def expo (n g : Int) (rs : List Int) (mk : Nat) : List Int := [69, n, g, (mk : Int)] ++ (rs.take mk).flatMap wb
theorem expo_len : ∀ (l : List Int), (l.flatMap wb).length = 4 * l.length
  | [] => rfl
  | x :: t => by
    rw [List.flatMap_cons, List.length_append, expo_len t, List.length_cons]
    show 4 + _ = _
    omega
theorem take_succ' {l : List Int} {k : Nat} (h : k < l.length) : l.take (k + 1) = l.take k ++ [l.getD k 0] := by
  rw [List.take_succ, List.getD_eq_getElem?_getD, List.getElem?_eq_getElem h]
  rfl
set_option maxHeartbeats 4000000 in
set_option maxRecDepth 100000 in
theorem kX6_hasName (l : Launch) (D : va_G) (ac : Nat → ClassId) {sh : Nat → Nat × Nat} {rf : Nat → Nat → Option Nat} {mem : Nat → Nat → Int} (a a0 : Nat) (n g : Int) (rs : List Int) (mk : Nat) (o : Int) (hO : RsO sh rf a a0) (hv : RsV mem a a0 n g rs mk) (hp : inR o) : gMet l D ac mX6_hasName 0 [.ref a, .int (iI o)] 0 0 sh rf mem (pP sh rf mem (fun r => (r = 1 ∧ n = o) ∨ (r = 0 ∧ n ≠ o))) := by
  refine gMet.mk (by decide) (by intro v hv; simp at hv; (try rcases hv with rfl | rfl) <;> rfl) (Nat.le_of_ble_eq_true rfl) (fun X hC hI => ?_)
  show gG X sh rf mem 0 0 0 [some (.ref a), some (.int (iI o))] []
  have hO9 := hO
  have hv9 := hv
  obtain ⟨ho, hr0, hs0⟩ := hO
  obtain ⟨v1, v2, v3, v4, v5, v6, v7, v8, v9, v10⟩ := hv
  have n1 := hO9.ne
  have n2 := n1.symm
  obtain ⟨hp1, hp2⟩ := hp
  refine g_aload_n hC dX6_hasName_0 rfl ?_
  refine g_getI hC fdX6_15 (by assumption) dX6_hasName_1 ?_
  refine g_iload_n hC dX6_hasName_4 rfl ?_
  refine g_icmp_ne (tgt := 12) hC dX6_hasName_5 (by decide) ⟨by omega, by omega⟩ ⟨by omega, by omega⟩ (fun h5 => ?_) (fun h5 => ?_)
  · refine g_iconst hC dX6_hasName_12 ?_
    refine g_zret hC hI rfl (by decide +kernel) dX6_hasName_13 (Nat.le_of_ble_eq_true rfl) (Nat.le_of_ble_eq_true rfl) ⟨rfl, rfl, rfl, _, rfl, ?_⟩
    omega
  · refine g_iconst hC dX6_hasName_8 ?_
    refine g_goto (tgt := 13) hC dX6_hasName_9 (by decide) ?_
    refine g_zret hC hI rfl (by decide +kernel) dX6_hasName_13 (Nat.le_of_ble_eq_true rfl) (Nat.le_of_ble_eq_true rfl) ⟨rfl, rfl, rfl, _, rfl, ?_⟩
    omega
set_option maxHeartbeats 4000000 in
set_option maxRecDepth 100000 in
theorem kX6_isGuarded (l : Launch) (D : va_G) (ac : Nat → ClassId) {sh : Nat → Nat × Nat} {rf : Nat → Nat → Option Nat} {mem : Nat → Nat → Int} (a a0 : Nat) (n g : Int) (rs : List Int) (mk : Nat) (hO : RsO sh rf a a0) (hv : RsV mem a a0 n g rs mk) : gMet l D ac mX6_isGuarded 0 [.ref a] 0 0 sh rf mem (pP sh rf mem (fun r => r = g)) := by
  refine gMet.mk (by decide) (by intro v hv; simp at hv; (try rcases hv with rfl) <;> rfl) (Nat.le_of_ble_eq_true rfl) (fun X hC hI => ?_)
  show gG X sh rf mem 0 0 0 [some (.ref a)] []
  have hO9 := hO
  have hv9 := hv
  obtain ⟨ho, hr0, hs0⟩ := hO
  obtain ⟨v1, v2, v3, v4, v5, v6, v7, v8, v9, v10⟩ := hv
  have n1 := hO9.ne
  have n2 := n1.symm
  refine g_aload_n hC dX6_isGuarded_0 rfl ?_
  refine g_getI hC fdX6_19 (by assumption) dX6_isGuarded_1 ?_
  refine g_zret hC hI rfl (by rw [v2]; rcases v9 with q | q <;> rw [q] <;> decide +kernel) dX6_isGuarded_4 (Nat.le_of_ble_eq_true rfl) (Nat.le_of_ble_eq_true rfl) ⟨rfl, rfl, rfl, _, rfl, ?_⟩
  omega
set_option maxHeartbeats 4000000 in
set_option maxRecDepth 100000 in
theorem kX6_counting (l : Launch) (D : va_G) (ac : Nat → ClassId) {sh : Nat → Nat × Nat} {rf : Nat → Nat → Option Nat} {mem : Nat → Nat → Int} (a a0 : Nat) (n g : Int) (rs : List Int) (mk : Nat) (hO : RsO sh rf a a0) (hv : RsV mem a a0 n g rs mk) : gMet l D ac mX6_counting 0 [.ref a] 0 0 sh rf mem (pP sh rf mem (fun r => r = mk)) := by
  refine gMet.mk (by decide) (by intro v hv; simp at hv; (try rcases hv with rfl) <;> rfl) (Nat.le_of_ble_eq_true rfl) (fun X hC hI => ?_)
  show gG X sh rf mem 0 0 0 [some (.ref a)] []
  have hO9 := hO
  have hv9 := hv
  obtain ⟨ho, hr0, hs0⟩ := hO
  obtain ⟨v1, v2, v3, v4, v5, v6, v7, v8, v9, v10⟩ := hv
  have n1 := hO9.ne
  have n2 := n1.symm
  refine g_aload_n hC dX6_counting_0 rfl ?_
  refine g_getI hC fdX6_23 (by assumption) dX6_counting_1 ?_
  refine g_iret hC hI rfl dX6_counting_4 (Nat.le_of_ble_eq_true rfl) (Nat.le_of_ble_eq_true rfl) ⟨rfl, rfl, rfl, _, rfl, ?_⟩
  omega
set_option maxHeartbeats 4000000 in
set_option maxRecDepth 100000 in
theorem kX6_countsAll (l : Launch) (D : va_G) (ac : Nat → ClassId) {sh : Nat → Nat × Nat} {rf : Nat → Nat → Option Nat} {mem : Nat → Nat → Int} (a a0 : Nat) (n g : Int) (rs : List Int) (mk : Nat) (hO : RsO sh rf a a0) (hv : RsV mem a a0 n g rs mk) : gMet l D ac mX6_countsAll 0 [.ref a] 0 0 sh rf mem (pP sh rf mem (fun r => (r = 1 ∧ mk = rs.length) ∨ (r = 0 ∧ mk ≠ rs.length))) := by
  refine gMet.mk (by decide) (by intro v hv; simp at hv; (try rcases hv with rfl) <;> rfl) (Nat.le_of_ble_eq_true rfl) (fun X hC hI => ?_)
  show gG X sh rf mem 0 0 0 [some (.ref a)] []
  have hO9 := hO
  have hv9 := hv
  obtain ⟨ho, hr0, hs0⟩ := hO
  obtain ⟨v1, v2, v3, v4, v5, v6, v7, v8, v9, v10⟩ := hv
  have n1 := hO9.ne
  have n2 := n1.symm
  refine g_aload_n hC dX6_countsAll_0 rfl ?_
  refine g_getI hC fdX6_23 (by assumption) dX6_countsAll_1 ?_
  refine g_aload_n hC dX6_countsAll_4 rfl ?_
  refine g_getI hC fdX6_26 (by assumption) dX6_countsAll_5 ?_
  refine g_icmp_ne (tgt := 15) hC dX6_countsAll_8 (by decide) ⟨by omega, by omega⟩ ⟨by omega, by omega⟩ (fun h8 => ?_) (fun h8 => ?_)
  · refine g_iconst hC dX6_countsAll_15 ?_
    refine g_zret hC hI rfl (by decide +kernel) dX6_countsAll_16 (Nat.le_of_ble_eq_true rfl) (Nat.le_of_ble_eq_true rfl) ⟨rfl, rfl, rfl, _, rfl, ?_⟩
    omega
  · refine g_iconst hC dX6_countsAll_11 ?_
    refine g_goto (tgt := 16) hC dX6_countsAll_12 (by decide) ?_
    refine g_zret hC hI rfl (by decide +kernel) dX6_countsAll_16 (Nat.le_of_ble_eq_true rfl) (Nat.le_of_ble_eq_true rfl) ⟨rfl, rfl, rfl, _, rfl, ?_⟩
    omega
set_option maxHeartbeats 4000000 in
set_option maxRecDepth 100000 in
theorem kX6_hasRoomFor (l : Launch) (D : va_G) (ac : Nat → ClassId) {sh : Nat → Nat × Nat} {rf : Nat → Nat → Option Nat} {mem : Nat → Nat → Int} (a a0 : Nat) (n g : Int) (rs : List Int) (mk : Nat) (m : Int) (hO : RsO sh rf a a0) (hv : RsV mem a a0 n g rs mk) (hp : 0 ≤ m ∧ m ≤ 1000) : gMet l D ac mX6_hasRoomFor 0 [.ref a, .int (iI m)] 0 0 sh rf mem (pP sh rf mem (fun r => (r = 1 ∧ mk + m ≤ 60) ∨ (r = 0 ∧ ¬ (mk + m ≤ 60)))) := by
  refine gMet.mk (by decide) (by intro v hv; simp at hv; (try rcases hv with rfl | rfl) <;> rfl) (Nat.le_of_ble_eq_true rfl) (fun X hC hI => ?_)
  show gG X sh rf mem 0 0 0 [some (.ref a), some (.int (iI m))] []
  have hO9 := hO
  have hv9 := hv
  obtain ⟨ho, hr0, hs0⟩ := hO
  obtain ⟨v1, v2, v3, v4, v5, v6, v7, v8, v9, v10⟩ := hv
  have n1 := hO9.ne
  have n2 := n1.symm
  refine g_aload_n hC dX6_hasRoomFor_0 rfl ?_
  refine g_getI hC fdX6_23 (by assumption) dX6_hasRoomFor_1 ?_
  refine g_iload_n hC dX6_hasRoomFor_4 rfl ?_
  refine g_iadd hC dX6_hasRoomFor_5 ?_
  refine g_bipush hC dX6_hasRoomFor_6 (by decide +kernel) ?_
  refine g_icmp_gt (tgt := 15) hC dX6_hasRoomFor_8 (by decide) ⟨by omega, by omega⟩ ⟨by omega, by omega⟩ (fun h8 => ?_) (fun h8 => ?_)
  · refine g_iconst hC dX6_hasRoomFor_15 ?_
    refine g_zret hC hI rfl (by decide +kernel) dX6_hasRoomFor_16 (Nat.le_of_ble_eq_true rfl) (Nat.le_of_ble_eq_true rfl) ⟨rfl, rfl, rfl, _, rfl, ?_⟩
    omega
  · refine g_iconst hC dX6_hasRoomFor_11 ?_
    refine g_goto (tgt := 16) hC dX6_hasRoomFor_12 (by decide) ?_
    refine g_zret hC hI rfl (by decide +kernel) dX6_hasRoomFor_16 (Nat.le_of_ble_eq_true rfl) (Nat.le_of_ble_eq_true rfl) ⟨rfl, rfl, rfl, _, rfl, ?_⟩
    omega
def tellS (n g : Int) (rs : List Int) (mk : Nat) (w : Int) : Int := if w = 0 then n else if w = 1 then rs.length else if w = 2 then mk else if w = 3 then g else if w = 4 then (if 0 < mk then rs.getD (mk - 1) 0 else 0) else -1
set_option maxHeartbeats 4000000 in
set_option maxRecDepth 100000 in
theorem kX6_tell (l : Launch) (D : va_G) (ac : Nat → ClassId) {sh : Nat → Nat × Nat} {rf : Nat → Nat → Option Nat} {mem : Nat → Nat → Int} (a a0 : Nat) (n g : Int) (rs : List Int) (mk : Nat) (w : Int) (hO : RsO sh rf a a0) (hv : RsV mem a a0 n g rs mk) (hp : inR w) : gMet l D ac mX6_tell 0 [.ref a, .int (iI w)] 0 0 sh rf mem (pP sh rf mem (fun r => r = tellS n g rs mk w)) := by
  refine gMet.mk (by decide) (by intro v hv; simp at hv; (try rcases hv with rfl | rfl) <;> rfl) (Nat.le_of_ble_eq_true rfl) (fun X hC hI => ?_)
  show gG X sh rf mem 0 0 0 [some (.ref a), some (.int (iI w))] []
  have hO9 := hO
  have hv9 := hv
  obtain ⟨ho, hr0, hs0⟩ := hO
  obtain ⟨v1, v2, v3, v4, v5, v6, v7, v8, v9, v10⟩ := hv
  have n1 := hO9.ne
  have n2 := n1.symm
  obtain ⟨hp1, hp2⟩ := hp
  refine g_iload_n hC dX6_tell_0 rfl ?_
  rcases (show w = 0 ∨ w = 1 ∨ w = 2 ∨ w = 3 ∨ w = 4 ∨ (w < 0 ∨ 4 < w) by omega) with s1 | s1 | s1 | s1 | s1 | s1
  · refine g_tableIn (tgt := 36) hC dX6_tell_1 (0) s1 ⟨by decide, by decide⟩ (by decide) (by decide) rfl (by decide) ?_
    refine g_aload_n hC dX6_tell_36 rfl ?_
    refine g_getI hC fdX6_15 (by assumption) dX6_tell_37 ?_
    refine g_iret hC hI rfl dX6_tell_40 (Nat.le_of_ble_eq_true rfl) (Nat.le_of_ble_eq_true rfl) ⟨rfl, rfl, rfl, _, rfl, ?_⟩
    simp [tellS, s1, v1]
  · refine g_tableIn (tgt := 41) hC dX6_tell_1 (1) s1 ⟨by decide, by decide⟩ (by decide) (by decide) rfl (by decide) ?_
    refine g_aload_n hC dX6_tell_41 rfl ?_
    refine g_getI hC fdX6_26 (by assumption) dX6_tell_42 ?_
    refine g_iret hC hI rfl dX6_tell_45 (Nat.le_of_ble_eq_true rfl) (Nat.le_of_ble_eq_true rfl) ⟨rfl, rfl, rfl, _, rfl, ?_⟩
    simp [tellS, s1, v3]
  · refine g_tableIn (tgt := 46) hC dX6_tell_1 (2) s1 ⟨by decide, by decide⟩ (by decide) (by decide) rfl (by decide) ?_
    refine g_aload_n hC dX6_tell_46 rfl ?_
    refine g_getI hC fdX6_23 (by assumption) dX6_tell_47 ?_
    refine g_iret hC hI rfl dX6_tell_50 (Nat.le_of_ble_eq_true rfl) (Nat.le_of_ble_eq_true rfl) ⟨rfl, rfl, rfl, _, rfl, ?_⟩
    simp [tellS, s1, v4]
  · refine g_tableIn (tgt := 51) hC dX6_tell_1 (3) s1 ⟨by decide, by decide⟩ (by decide) (by decide) rfl (by decide) ?_
    refine g_aload_n hC dX6_tell_51 rfl ?_
    refine g_getI hC fdX6_19 (by assumption) dX6_tell_52 ?_
    refine g_if_eq (tgt := 62) hC dX6_tell_55 (by decide) ⟨by omega, by omega⟩ (fun h55 => ?_) (fun h55 => ?_)
    · refine g_iconst hC dX6_tell_62 ?_
      refine g_iret hC hI rfl dX6_tell_63 (Nat.le_of_ble_eq_true rfl) (Nat.le_of_ble_eq_true rfl) ⟨rfl, rfl, rfl, _, rfl, ?_⟩
      simp only [tellS, s1]; simp; omega
    · refine g_iconst hC dX6_tell_58 ?_
      refine g_goto (tgt := 63) hC dX6_tell_59 (by decide) ?_
      refine g_iret hC hI rfl dX6_tell_63 (Nat.le_of_ble_eq_true rfl) (Nat.le_of_ble_eq_true rfl) ⟨rfl, rfl, rfl, _, rfl, ?_⟩
      simp only [tellS, s1]; simp; omega
  · refine g_tableIn (tgt := 64) hC dX6_tell_1 (4) s1 ⟨by decide, by decide⟩ (by decide) (by decide) rfl (by decide) ?_
    refine g_aload_n hC dX6_tell_64 rfl ?_
    refine g_getI hC fdX6_23 (by assumption) dX6_tell_65 ?_
    refine g_if_le (tgt := 85) hC dX6_tell_68 (by decide) ⟨by omega, by omega⟩ (fun h68 => ?_) (fun h68 => ?_)
    · refine g_iconst hC dX6_tell_85 ?_
      refine g_iret hC hI rfl dX6_tell_86 (Nat.le_of_ble_eq_true rfl) (Nat.le_of_ble_eq_true rfl) ⟨rfl, rfl, rfl, _, rfl, ?_⟩
      rw [tellS, if_neg (by omega), if_neg (by omega), if_neg (by omega), if_neg (by omega), if_pos s1]
      first | (rw [if_neg (by omega)]) | (rw [if_pos (by omega), ← v10 (mk - 1) (by omega), show (mem a 4 - 1).toNat = mk - 1 by omega])
    · refine g_aload_n hC dX6_tell_71 rfl ?_
      refine g_getR hC fdX6_9 (by assumption) (by assumption) dX6_tell_72 ?_
      refine g_aload_n hC dX6_tell_75 rfl ?_
      refine g_getI hC fdX6_23 (by assumption) dX6_tell_76 ?_
      refine g_iconst hC dX6_tell_79 ?_
      refine g_isub hC dX6_tell_80 ?_
      refine g_iald hC (by assumption) (by omega) (by omega) (by decide) dX6_tell_81 ?_
      refine g_goto (tgt := 86) hC dX6_tell_82 (by decide) ?_
      refine g_iret hC hI rfl dX6_tell_86 (Nat.le_of_ble_eq_true rfl) (Nat.le_of_ble_eq_true rfl) ⟨rfl, rfl, rfl, _, rfl, ?_⟩
      rw [tellS, if_neg (by omega), if_neg (by omega), if_neg (by omega), if_neg (by omega), if_pos s1]
      first | (rw [if_neg (by omega)]) | (rw [if_pos (by omega), ← v10 (mk - 1) (by omega), show (mem a 4 - 1).toNat = mk - 1 by omega])
  · refine g_tableOut (tgt := 87) hC dX6_tell_1 ⟨by omega, by omega⟩ s1 (by decide) ?_
    refine g_iconst hC dX6_tell_87 ?_
    refine g_iret hC hI rfl dX6_tell_88 (Nat.le_of_ble_eq_true rfl) (Nat.le_of_ble_eq_true rfl) ⟨rfl, rfl, rfl, _, rfl, ?_⟩
    rw [tellS, if_neg (by omega), if_neg (by omega), if_neg (by omega), if_neg (by omega), if_neg (by omega)]
set_option maxHeartbeats 4000000 in
set_option maxRecDepth 100000 in
theorem kX6_add (l : Launch) (D : va_G) (ac : Nat → ClassId) {sh : Nat → Nat × Nat} {rf : Nat → Nat → Option Nat} {mem : Nat → Nat → Int} (a a0 : Nat) (n g : Int) (rs : List Int) (mk : Nat) (v : Int) (hO : RsO sh rf a a0) (hv : RsW mem a a0 n g rs mk) : gMet l D ac mX6_add 0 [.ref a, .int (iI v)] 0 0 sh rf mem (pM sh rf (fun r mem1 => (60 ≤ rs.length ∧ r = -1 ∧ mem1 = mem) ∨ (rs.length < 60 ∧ r = rs.length + 1 ∧ RsW mem1 a a0 n g (rs ++ [v]) mk ∧ Fr2 mem mem1 a a0))) := by
  refine gMet.mk (by decide) (by intro v hv; simp at hv; (try rcases hv with rfl | rfl) <;> rfl) (Nat.le_of_ble_eq_true rfl) (fun X hC hI => ?_)
  show gG X sh rf mem 0 0 0 [some (.ref a), some (.int (iI v))] []
  have hO9 := hO
  have hv9 := hv
  obtain ⟨ho, hr0, hs0⟩ := hO
  obtain ⟨v1, v2, v3, v4, v5, v6, v7, v8, v9, v10⟩ := hv
  have n1 := hO9.ne
  have n2 := n1.symm
  refine g_aload_n hC dX6_add_0 rfl ?_
  refine g_getI hC fdX6_26 (by assumption) dX6_add_1 ?_
  refine g_bipush hC dX6_add_4 (by decide +kernel) ?_
  refine g_icmp_lt (tgt := 11) hC dX6_add_6 (by decide) ⟨by omega, by omega⟩ ⟨by omega, by omega⟩ (fun h6 => ?_) (fun h6 => ?_)
  · refine g_aload_n hC dX6_add_11 rfl ?_
    refine g_getR hC fdX6_9 (by assumption) (by assumption) dX6_add_12 ?_
    refine g_aload_n hC dX6_add_15 rfl ?_
    refine g_getI hC fdX6_26 (by assumption) dX6_add_16 ?_
    refine g_iload_n hC dX6_add_19 rfl ?_
    refine g_iast hC (by assumption) (by omega) (by omega) (by decide) dX6_add_20 ?_
    refine g_aload_n hC dX6_add_21 rfl ?_
    refine g_dup hC dX6_add_22 rfl ?_
    refine g_getI hC fdX6_26 (by assumption) dX6_add_23 ?_
    refine g_iconst hC dX6_add_26 ?_
    refine g_iadd hC dX6_add_27 ?_
    refine g_putI hC fdX6_26 (by assumption) rfl rfl dX6_add_28 ?_
    refine g_aload_n hC dX6_add_31 rfl ?_
    refine g_getI hC fdX6_26 (by assumption) dX6_add_32 ?_
    refine g_iret hC hI rfl dX6_add_35 (Nat.le_of_ble_eq_true rfl) (Nat.le_of_ble_eq_true rfl) ⟨rfl, rfl, _, rfl, ?_⟩
    right
    have e : gup mem a0 (mem a 3).toNat v a 3 = mem a 3 := gup_a _ _ _ _ n1
    refine ⟨by omega, ?_, ?_⟩
    · rw [gup_s, e]; omega
    · refine RsW_add hO9 hv9 (by omega) ?_
      rw [e, v3, Int.toNat_natCast]
  · refine g_iconst hC dX6_add_9 ?_
    refine g_iret hC hI rfl dX6_add_10 (Nat.le_of_ble_eq_true rfl) (Nat.le_of_ble_eq_true rfl) ⟨rfl, rfl, _, rfl, ?_⟩
    exact Or.inl ⟨by omega, rfl, rfl⟩
set_option maxHeartbeats 4000000 in
set_option maxRecDepth 100000 in
theorem kX6_rename (l : Launch) (D : va_G) (ac : Nat → ClassId) {sh : Nat → Nat × Nat} {rf : Nat → Nat → Option Nat} {mem : Nat → Nat → Int} (a a0 : Nat) (n g : Int) (rs : List Int) (mk : Nat) (m : Int) (hO : RsO sh rf a a0) (hv : RsV mem a a0 n g rs mk) (hp : 0 ≤ m ∧ m < 100) : gMet l D ac mX6_rename 0 [.ref a, .int (iI m)] 0 0 sh rf mem (pV sh rf (fun mem1 => RsV mem1 a a0 m g rs mk ∧ Fr2 mem mem1 a a0)) := by
  refine gMet.mk (by decide) (by intro v hv; simp at hv; (try rcases hv with rfl | rfl) <;> rfl) (Nat.le_of_ble_eq_true rfl) (fun X hC hI => ?_)
  show gG X sh rf mem 0 0 0 [some (.ref a), some (.int (iI m))] []
  have hO9 := hO
  have hv9 := hv
  obtain ⟨ho, hr0, hs0⟩ := hO
  obtain ⟨v1, v2, v3, v4, v5, v6, v7, v8, v9, v10⟩ := hv
  have n1 := hO9.ne
  have n2 := n1.symm
  refine g_aload_n hC dX6_rename_0 rfl ?_
  refine g_iload_n hC dX6_rename_1 rfl ?_
  refine g_putI hC fdX6_15 (by assumption) rfl rfl dX6_rename_2 ?_
  refine g_vret hC hI rfl dX6_rename_5 (Nat.le_of_ble_eq_true rfl) (Nat.le_of_ble_eq_true rfl) ⟨rfl, rfl, rfl, ?_⟩
  refine ⟨⟨gup_s _ _ _ _, ?_, ?_, ?_, v5, v6, hp.1, hp.2, v9, fun i hi => ?_⟩, fun b b1 b2 => by funext j; rw [gup_a _ _ _ _ b1]⟩
  · rw [gup_k _ _ _ _ (by decide)]; exact v2
  · rw [gup_k _ _ _ _ (by decide)]; exact v3
  · rw [gup_k _ _ _ _ (by decide)]; exact v4
  · rw [gup_a _ _ _ _ n2]; exact v10 i hi
set_option maxHeartbeats 4000000 in
set_option maxRecDepth 100000 in
theorem kX6_countAll (l : Launch) (D : va_G) (ac : Nat → ClassId) {sh : Nat → Nat × Nat} {rf : Nat → Nat → Option Nat} {mem : Nat → Nat → Int} (a a0 : Nat) (n g : Int) (rs : List Int) (mk : Nat) (hO : RsO sh rf a a0) (hv : RsV mem a a0 n g rs mk) : gMet l D ac mX6_countAll 0 [.ref a] 0 0 sh rf mem (pV sh rf (fun mem1 => RsV mem1 a a0 n g rs rs.length ∧ Fr2 mem mem1 a a0)) := by
  refine gMet.mk (by decide) (by intro v hv; simp at hv; (try rcases hv with rfl) <;> rfl) (Nat.le_of_ble_eq_true rfl) (fun X hC hI => ?_)
  show gG X sh rf mem 0 0 0 [some (.ref a)] []
  have hO9 := hO
  have hv9 := hv
  obtain ⟨ho, hr0, hs0⟩ := hO
  obtain ⟨v1, v2, v3, v4, v5, v6, v7, v8, v9, v10⟩ := hv
  have n1 := hO9.ne
  have n2 := n1.symm
  refine g_aload_n hC dX6_countAll_0 rfl ?_
  refine g_aload_n hC dX6_countAll_1 rfl ?_
  refine g_getI hC fdX6_26 (by assumption) dX6_countAll_2 ?_
  refine g_putI hC fdX6_23 (by assumption) rfl rfl dX6_countAll_5 ?_
  refine g_vret hC hI rfl dX6_countAll_8 (Nat.le_of_ble_eq_true rfl) (Nat.le_of_ble_eq_true rfl) ⟨rfl, rfl, rfl, ?_⟩
  refine ⟨⟨?_, ?_, ?_, ?_, v5, Nat.le_refl _, v7, v8, v9, fun i hi => ?_⟩, fun b b1 b2 => by funext j; rw [gup_a _ _ _ _ b1]⟩
  · rw [gup_k _ _ _ _ (by decide)]; exact v1
  · rw [gup_k _ _ _ _ (by decide)]; exact v2
  · rw [gup_k _ _ _ _ (by decide)]; exact v3
  · rw [gup_s]; exact v3
  · rw [gup_a _ _ _ _ n2]; exact v10 i hi
set_option maxHeartbeats 4000000 in
set_option maxRecDepth 100000 in
theorem kX6_appendCounting (l : Launch) (D : va_G) (ac : Nat → ClassId) {sh : Nat → Nat × Nat} {rf : Nat → Nat → Option Nat} {mem : Nat → Nat → Int} (a a0 : Nat) (n g : Int) (rs : List Int) (mk : Nat) (b b0 : Nat) (nb gb : Int) (rb : List Int) (mb : Nat) (hO : RsO sh rf a a0) (hv : RsV mem a a0 n g rs mk) (hOb : RsO sh rf b b0) (hvb : RsV mem b b0 nb gb rb mb) (hd : a ≠ b ∧ a0 ≠ b0) : gMet l D ac mX6_appendCounting 1 [.ref a, .ref b] 0 0 sh rf mem (pV sh rf (fun mem1 => (mk + mb ≤ 60 → RsV mem1 a a0 n g (rs.take mk ++ rb.take mb) (mk + mb)) ∧ (¬ mk + mb ≤ 60 → mem1 = mem) ∧ Fr2 mem mem1 a a0)) := by
  refine gMet.mk (by decide) (by intro v hv; simp at hv; (try rcases hv with rfl | rfl) <;> rfl) (Nat.le_of_ble_eq_true rfl) (fun X hC hI => ?_)
  show gG X sh rf mem 0 0 0 [some (.ref a), some (.ref b)] []
  have hO9 := hO
  have hv9 := hv
  obtain ⟨ho, hr0, hs0⟩ := hO
  obtain ⟨v1, v2, v3, v4, v5, v6, v7, v8, v9, v10⟩ := hv
  have n1 := hO9.ne
  have n2 := n1.symm
  have hO8 := hOb
  have hv8 := hvb
  obtain ⟨bo, br0, bs0⟩ := hOb
  obtain ⟨b1, b2, b3, b4, b5, b6, b7, b8, b9, b10⟩ := hvb
  obtain ⟨d1, d2⟩ := hd
  have e1 := d1.symm
  have y0 : b ≠ a0 := by rintro rfl; simp_all
  refine g_aload_n hC dX6_appendCounting_0 rfl ?_
  refine g_aload_n hC dX6_appendCounting_1 rfl ?_
  refine g_getI hC fdX6_23 (by assumption) dX6_appendCounting_2 ?_
  refine g_VP hC (kX6_hasRoomFor (gl X) (gD X) (gac X) a a0 n g rs mk (mem b 4) hO9 hv9 ⟨by omega, by omega⟩) cvX6_hasRoomFor lkX6_29 (by assumption) rfl rfl (Nat.le_of_ble_eq_true rfl) (hI.fit (Nat.le_of_ble_eq_true rfl) (Nat.le_of_ble_eq_true rfl) (Nat.le_of_ble_eq_true rfl)) dX6_appendCounting_5 (fun x5 hx5 => ?_)
  refine g_if_eq (tgt := 52) hC dX6_appendCounting_8 (by decide) ⟨by omega, by omega⟩ (fun h8 => ?_) (fun h8 => ?_)
  · refine g_vret hC hI rfl dX6_appendCounting_52 (Nat.le_of_ble_eq_true rfl) (Nat.le_of_ble_eq_true rfl) ⟨rfl, rfl, rfl, ?_⟩
    first
    | exact ⟨fun q => by omega, fun _ => rfl, Fr2.rf⟩
    | (have f1 : gcp mem b0 (Int.toNat 0) a0 (mem a 4).toNat (mem b 4).toNat b 4 = mem b 4 := by simp [gcp, y0]
       have f2 : gcp mem b0 (Int.toNat 0) a0 (mem a 4).toNat (mem b 4).toNat a 4 = mem a 4 := by simp [gcp, n1]
       refine ⟨fun _ => ?_, fun q => by omega, fun c c1 c2 => by funext j; rw [gup_a _ _ _ _ c1, gup_a _ _ _ _ c1]; simp [gcp, c2]⟩
       rw [f1, f2, gup_s]
       refine ⟨?_, ?_, ?_, ?_, ?_, ?_, v7, v8, v9, fun i hi => ?_⟩
       · rw [gup_k _ _ _ _ (by decide), gup_k _ _ _ _ (by decide)]; simp [gcp, n1, v1]
       · rw [gup_k _ _ _ _ (by decide), gup_k _ _ _ _ (by decide)]; simp [gcp, n1, v2]
       · rw [gup_s]; simp only [List.length_append, List.length_take]; omega
       · rw [gup_k _ _ _ _ (by decide), gup_s]; omega
       · simp only [List.length_append, List.length_take]; omega
       · simp only [List.length_append, List.length_take]; omega
       · simp only [List.length_append, List.length_take] at hi
         rw [gup_a _ _ _ _ n2, gup_a _ _ _ _ n2]
         have e4 : (mem a 4).toNat = mk := by omega
         have e5 : (mem b 4).toNat = mb := by omega
         rw [e4, e5]
         simp only [gcp, true_and, Int.toNat_zero]
         have hl : (rs.take mk).length = mk := by rw [List.length_take]; omega
         by_cases q : i < mk
         · rw [if_neg (by omega), getD_app (by omega), getD_take q]
           exact v10 i (by omega)
         · rw [if_pos (by omega), Nat.zero_add, b10 (i - mk) (by omega)]
           rw [List.getD_eq_getElem?_getD, List.getD_eq_getElem?_getD, List.getElem?_append_right (by omega), hl, List.getElem?_take, if_pos (by omega)])
  · refine g_aload_n hC dX6_appendCounting_11 rfl ?_
    refine g_getR hC fdX6_9 (by assumption) (by assumption) dX6_appendCounting_12 ?_
    refine g_iconst hC dX6_appendCounting_15 ?_
    refine g_aload_n hC dX6_appendCounting_16 rfl ?_
    refine g_getR hC fdX6_9 (by assumption) (by assumption) dX6_appendCounting_17 ?_
    refine g_aload_n hC dX6_appendCounting_20 rfl ?_
    refine g_getI hC fdX6_23 (by assumption) dX6_appendCounting_21 ?_
    refine g_aload_n hC dX6_appendCounting_24 rfl ?_
    refine g_getI hC fdX6_23 (by assumption) dX6_appendCounting_25 ?_
    refine g_copy hC lkX6_33 ac_na ac_st ac_in (by assumption) (by assumption) (by decide) (by omega) (by omega) (by omega) (by omega) (by omega) (by decide) (by decide) (fun h => absurd h (by decide)) (by rw [hI.rm]; exact (Nat.le_of_ble_eq_true rfl)) (by rw [hI.rm]; exact (Nat.le_of_ble_eq_true rfl)) dX6_appendCounting_28 ?_
    refine g_aload_n hC dX6_appendCounting_31 rfl ?_
    refine g_dup hC dX6_appendCounting_32 rfl ?_
    refine g_getI hC fdX6_23 (by assumption) dX6_appendCounting_33 ?_
    refine g_aload_n hC dX6_appendCounting_36 rfl ?_
    refine g_getI hC fdX6_23 (by assumption) dX6_appendCounting_37 ?_
    refine g_iadd hC dX6_appendCounting_40 ?_
    refine g_putI hC fdX6_23 (by assumption) rfl rfl dX6_appendCounting_41 ?_
    refine g_aload_n hC dX6_appendCounting_44 rfl ?_
    refine g_aload_n hC dX6_appendCounting_45 rfl ?_
    refine g_getI hC fdX6_23 (by assumption) dX6_appendCounting_46 ?_
    refine g_putI hC fdX6_26 (by assumption) rfl rfl dX6_appendCounting_49 ?_
    refine g_vret hC hI rfl dX6_appendCounting_52 (Nat.le_of_ble_eq_true rfl) (Nat.le_of_ble_eq_true rfl) ⟨rfl, rfl, rfl, ?_⟩
    first
    | exact ⟨fun q => by omega, fun _ => rfl, Fr2.rf⟩
    | (have f1 : gcp mem b0 (Int.toNat 0) a0 (mem a 4).toNat (mem b 4).toNat b 4 = mem b 4 := by simp [gcp, y0]
       have f2 : gcp mem b0 (Int.toNat 0) a0 (mem a 4).toNat (mem b 4).toNat a 4 = mem a 4 := by simp [gcp, n1]
       refine ⟨fun _ => ?_, fun q => by omega, fun c c1 c2 => by funext j; rw [gup_a _ _ _ _ c1, gup_a _ _ _ _ c1]; simp [gcp, c2]⟩
       rw [f1, f2, gup_s]
       refine ⟨?_, ?_, ?_, ?_, ?_, ?_, v7, v8, v9, fun i hi => ?_⟩
       · rw [gup_k _ _ _ _ (by decide), gup_k _ _ _ _ (by decide)]; simp [gcp, n1, v1]
       · rw [gup_k _ _ _ _ (by decide), gup_k _ _ _ _ (by decide)]; simp [gcp, n1, v2]
       · rw [gup_s]; simp only [List.length_append, List.length_take]; omega
       · rw [gup_k _ _ _ _ (by decide), gup_s]; omega
       · simp only [List.length_append, List.length_take]; omega
       · simp only [List.length_append, List.length_take]; omega
       · simp only [List.length_append, List.length_take] at hi
         rw [gup_a _ _ _ _ n2, gup_a _ _ _ _ n2]
         have e4 : (mem a 4).toNat = mk := by omega
         have e5 : (mem b 4).toNat = mb := by omega
         rw [e4, e5]
         simp only [gcp, true_and, Int.toNat_zero]
         have hl : (rs.take mk).length = mk := by rw [List.length_take]; omega
         by_cases q : i < mk
         · rw [if_neg (by omega), getD_app (by omega), getD_take q]
           exact v10 i (by omega)
         · rw [if_pos (by omega), Nat.zero_add, b10 (i - mk) (by omega)]
           rw [List.getD_eq_getElem?_getD, List.getD_eq_getElem?_getD, List.getElem?_append_right (by omega), hl, List.getElem?_take, if_pos (by omega)])
set_option maxHeartbeats 4000000 in
set_option maxRecDepth 100000 in
theorem kX6_appendSeries (l : Launch) (D : va_G) (ac : Nat → ClassId) {sh : Nat → Nat × Nat} {rf : Nat → Nat → Option Nat} {mem : Nat → Nat → Int} (a a0 : Nat) (n g : Int) (rs : List Int) (mk : Nat) (c v s : Int) (hO : RsO sh rf a a0) (hv : RsV mem a a0 n g rs mk) (hc : 1 ≤ c ∧ mk + c ≤ 60) : gMet l D ac mX6_appendSeries 1 [.ref a, .int (iI c), .int (iI v), .int (iI s)] 0 0 sh rf mem (pV sh rf (fun mem1 => RsV mem1 a a0 n g (rs.take mk ++ ser v s c.toNat) (mk + c.toNat) ∧ Fr2 mem mem1 a a0)) := by
  refine gMet.mk (by decide) (by intro v hv; simp at hv; (try rcases hv with rfl | rfl | rfl | rfl) <;> rfl) (Nat.le_of_ble_eq_true rfl) (fun X hC hI => ?_)
  show gG X sh rf mem 0 0 0 [some (.ref a), some (.int (iI c)), some (.int (iI v)), some (.int (iI s)), none, none] []
  have hO9 := hO
  have hv9 := hv
  obtain ⟨ho, hr0, hs0⟩ := hO
  obtain ⟨v1, v2, v3, v4, v5, v6, v7, v8, v9, v10⟩ := hv
  have n1 := hO9.ne
  have n2 := n1.symm
  have J14 : ∀ (t k : Nat) (m1 : Nat → Nat → Int), k ≤ c.toNat → c.toNat < k + t → RsV m1 a a0 n g (rs.take mk ++ ser v s k) mk → Fr2 mem m1 a a0 → gG X sh rf m1 0 0 14 [some (.ref a), some (.int (iI c)), some (.int (iI v)), some (.int (iI s)), some (.int (iI (sv v s k))), some (.int (iI k))] [] := by
    intro t
    induction t with
    | zero => intro k m1 k1 k2; omega
    | succ t ih =>
      intro k m1 k1 k2 k3 k4
      have hl : (rs.take mk ++ ser v s k).length = mk + k := by rw [List.length_append, List.length_take, ser_len]; omega
      refine g_iload hC dX6_appendSeries_14 rfl ?_
      refine g_iload_n hC dX6_appendSeries_16 rfl ?_
      refine g_icmp_ge (tgt := 39) hC dX6_appendSeries_17 (by decide) ⟨by omega, by omega⟩ ⟨by omega, by omega⟩ (fun h17 => ?_) (fun h17 => ?_)
      · refine g_aload_n hC dX6_appendSeries_39 rfl ?_
        refine g_aload_n hC dX6_appendSeries_40 rfl ?_
        refine g_getI hC fdX6_26 (by assumption) dX6_appendSeries_41 ?_
        refine g_putI hC fdX6_23 (by assumption) rfl rfl dX6_appendSeries_44 ?_
        refine g_vret hC hI rfl dX6_appendSeries_47 (Nat.le_of_ble_eq_true rfl) (Nat.le_of_ble_eq_true rfl) ⟨rfl, rfl, rfl, ?_⟩
        have q : k = c.toNat := by omega
        subst q
        obtain ⟨w1, w2, w3, w4, w5, w6, w7, w8, w9, w10⟩ := k3
        refine ⟨⟨?_, ?_, ?_, ?_, by omega, by omega, v7, v8, v9, fun i hi => ?_⟩, fun b b1 b2 => by funext j; rw [gup_a _ _ _ _ b1, k4 b b1 b2]⟩
        · rw [gup_k _ _ _ _ (by decide)]; exact w1
        · rw [gup_k _ _ _ _ (by decide)]; exact w2
        · rw [gup_k _ _ _ _ (by decide)]; exact w3
        · rw [gup_s, w3, hl]
        · rw [gup_a _ _ _ _ n2]; exact w10 i hi
      · refine g_aload_n hC dX6_appendSeries_20 rfl ?_
        refine g_iload hC dX6_appendSeries_21 rfl ?_
        refine g_VM hC (kX6_add (gl X) (gD X) (gac X) a a0 n g _ mk (sv v s k) hO9 k3.w) cvX6_add lkX6_39 (by assumption) rfl rfl (Nat.le_of_ble_eq_true rfl) (hI.fit (Nat.le_of_ble_eq_true rfl) (Nat.le_of_ble_eq_true rfl) (Nat.le_of_ble_eq_true rfl)) dX6_appendSeries_23 (fun x23 mem23 hx23 => ?_)
        rw [hl] at hx23
        replace hx23 := hx23.resolve_left (by omega)
        refine g_pop hC dX6_appendSeries_26 rfl ?_
        refine g_iload hC dX6_appendSeries_27 rfl ?_
        refine g_iload_n hC dX6_appendSeries_29 rfl ?_
        refine g_iadd hC dX6_appendSeries_30 ?_
        refine g_istore hC dX6_appendSeries_31 (Nat.le_of_ble_eq_true rfl) ?_
        dsimp only [List.set]
        refine g_iinc hC dX6_appendSeries_33 rfl ?_
        dsimp only [List.set]
        refine g_goto (tgt := 14) hC dX6_appendSeries_36 (by decide) ?_
        first
        | (refine J14 (c.toNat + 1) 0 _ (Nat.zero_le _) (by omega) ?_ (fun b b1 b2 => by funext j; rw [gup_a _ _ _ _ b1])
           have hl : (rs.take mk).length = mk := by rw [List.length_take]; omega
           simp only [ser, List.append_nil]
           refine ⟨?_, ?_, ?_, ?_, by omega, by omega, v7, v8, v9, fun i hi => ?_⟩
           · rw [gup_k _ _ _ _ (by decide)]; exact v1
           · rw [gup_k _ _ _ _ (by decide)]; exact v2
           · rw [gup_s, hl]; exact v4
           · rw [gup_k _ _ _ _ (by decide)]; exact v4
           · rw [gup_a _ _ _ _ n2, getD_take (by omega)]; exact v10 i (by omega))
        | (exact ih (k + 1) mem23 (by omega) (by omega) (by rw [ser, ← List.append_assoc]; exact hx23.2.2.1.v (by simp only [List.length_append]; simp only [List.length_append] at hl; omega)) (k4.trans hx23.2.2.2))
  refine g_aload_n hC dX6_appendSeries_0 rfl ?_
  refine g_aload_n hC dX6_appendSeries_1 rfl ?_
  refine g_getI hC fdX6_23 (by assumption) dX6_appendSeries_2 ?_
  refine g_putI hC fdX6_26 (by assumption) rfl rfl dX6_appendSeries_5 ?_
  refine g_iload_n hC dX6_appendSeries_8 rfl ?_
  refine g_istore hC dX6_appendSeries_9 (Nat.le_of_ble_eq_true rfl) ?_
  dsimp only [List.set]
  refine g_iconst hC dX6_appendSeries_11 ?_
  refine g_istore hC dX6_appendSeries_12 (Nat.le_of_ble_eq_true rfl) ?_
  dsimp only [List.set]
  first
  | (refine J14 (c.toNat + 1) 0 _ (Nat.zero_le _) (by omega) ?_ (fun b b1 b2 => by funext j; rw [gup_a _ _ _ _ b1])
     have hl : (rs.take mk).length = mk := by rw [List.length_take]; omega
     simp only [ser, List.append_nil]
     refine ⟨?_, ?_, ?_, ?_, by omega, by omega, v7, v8, v9, fun i hi => ?_⟩
     · rw [gup_k _ _ _ _ (by decide)]; exact v1
     · rw [gup_k _ _ _ _ (by decide)]; exact v2
     · rw [gup_s, hl]; exact v4
     · rw [gup_k _ _ _ _ (by decide)]; exact v4
     · rw [gup_a _ _ _ _ n2, getD_take (by omega)]; exact v10 i (by omega))
  | (exact ih (k + 1) mem23 (by omega) (by omega) (by rw [ser, ← List.append_assoc]; exact hx23.2.2.1.v (by simp only [List.length_append]; simp only [List.length_append] at hl; omega)) (k4.trans hx23.2.2.2))
theorem RsV.fr {mem mem1 : Nat → Nat → Int} {a a0 mk : Nat} {n g : Int} {rs : List Int} (h : mem1 a = mem a ∧ mem1 a0 = mem a0) (hv : RsV mem a a0 n g rs mk) : RsV mem1 a a0 n g rs mk := by
  unfold RsV
  rw [h.1, h.2]
  exact hv
theorem OcV.fr {mem mem1 : Nat → Nat → Int} {a a0 : Nat} {ob : List Int} (h : mem1 a = mem a ∧ mem1 a0 = mem a0) (hv : OcV mem a a0 ob) : OcV mem1 a a0 ob := by
  unfold OcV
  rw [h.1, h.2]
  exact hv
set_option maxHeartbeats 4000000 in
set_option maxRecDepth 100000 in
theorem kX6_writeTo (l : Launch) (D : va_G) (ac : Nat → ClassId) {sh : Nat → Nat × Nat} {rf : Nat → Nat → Option Nat} {mem : Nat → Nat → Int} (a a0 : Nat) (n g : Int) (rs : List Int) (mk : Nat) (b b0 : Nat) (ob : List Int) (hO : RsO sh rf a a0) (hv : RsV mem a a0 n g rs mk) (hOb : OcO sh rf b b0) (hvb : OcV mem b b0 ob) : gMet l D ac mX6_writeTo 2 [.ref a, .ref b] 0 0 sh rf mem (pV sh rf (fun mem1 => OcV mem1 b b0 (expo n g rs mk) ∧ Fr2 mem mem1 b b0)) := by
  refine gMet.mk (by decide) (by intro v hv; simp at hv; (try rcases hv with rfl | rfl) <;> rfl) (Nat.le_of_ble_eq_true rfl) (fun X hC hI => ?_)
  show gG X sh rf mem 0 0 0 [some (.ref a), some (.ref b), none] []
  have hO9 := hO
  have hv9 := hv
  obtain ⟨ho, hr0, hs0⟩ := hO
  obtain ⟨v1, v2, v3, v4, v5, v6, v7, v8, v9, v10⟩ := hv
  have n1 := hO9.ne
  have n2 := n1.symm
  have hO8 := hOb
  have hv8 := hvb
  obtain ⟨bo, br0, bs0⟩ := hOb
  have z1 : a ≠ b := by rintro rfl; simp_all
  have z2 : a ≠ b0 := by rintro rfl; simp_all
  have z3 : a0 ≠ b := by rintro rfl; simp_all
  have z4 : a0 ≠ b0 := by rintro rfl; simp_all
  have J44 : ∀ (t k : Nat) (m1 : Nat → Nat → Int), k ≤ mk → mk < k + t → OcV m1 b b0 ([69, n, g, (mk : Int)] ++ (rs.take k).flatMap wb) → Fr2 mem m1 b b0 → gG X sh rf m1 0 0 44 [some (.ref a), some (.ref b), some (.int (iI k))] [] := by
    intro t
    induction t with
    | zero => intro k m1 k1 k2; omega
    | succ t ih =>
      intro k m1 k1 k2 k3 k4
      have hl : ([69, n, g, (mk : Int)] ++ (rs.take k).flatMap wb).length = 4 + 4 * k := by rw [List.length_append, expo_len, List.length_take, Nat.min_eq_left (by omega)]; rfl
      refine g_iload_n hC dX6_writeTo_44 rfl ?_
      refine g_aload_n hC dX6_writeTo_45 rfl ?_
      refine g_getI hC fdX6_23 (by assumption) dX6_writeTo_46 ?_
      have em : m1 a = mem a := k4 a z1 z2
      have em0 : m1 a0 = mem a0 := k4 a0 z3 z4
      rw [em, v4]
      refine g_icmp_ge (tgt := 68) hC dX6_writeTo_49 (by decide) ⟨by omega, by omega⟩ ⟨by omega, by omega⟩ (fun h49 => ?_) (fun h49 => ?_)
      · refine g_vret hC hI rfl dX6_writeTo_68 (Nat.le_of_ble_eq_true rfl) (Nat.le_of_ble_eq_true rfl) ⟨rfl, rfl, rfl, ?_⟩
        have q : k = mk := by omega
        subst q
        exact ⟨k3, k4⟩
      · refine g_aload_n hC dX6_writeTo_52 rfl ?_
        refine g_aload_n hC dX6_writeTo_53 rfl ?_
        refine g_getR hC fdX6_9 (by assumption) (by assumption) dX6_writeTo_54 ?_
        refine g_iload_n hC dX6_writeTo_57 rfl ?_
        refine g_iald hC (by assumption) (by omega) (by omega) (by decide) dX6_writeTo_58 ?_
        rw [em0, Int.toNat_natCast, v10 k (by omega)]
        refine g_VV hC (kX5_appendWord (gl X) (gD X) (gac X) b b0 _ _ hO8 k3 (by omega)) cvX5_appendWord lkX6_52 (by assumption) rfl rfl (Nat.le_of_ble_eq_true rfl) (hI.fit (Nat.le_of_ble_eq_true rfl) (Nat.le_of_ble_eq_true rfl) (Nat.le_of_ble_eq_true rfl)) dX6_writeTo_59 (fun mem59 hx59 => ?_)
        skip
        refine g_iinc hC dX6_writeTo_62 rfl ?_
        dsimp only [List.set]
        refine g_goto (tgt := 44) hC dX6_writeTo_65 (by decide) ?_
        first
        | (refine J44 (mk + 1) 0 _ (Nat.zero_le _) (by omega) ?_ f39
           have h39 := hx39.1
           simp only [List.take_zero, List.flatMap_nil, List.append_nil]
           rcases v9 with q | q
           · subst q
             simp only [List.nil_append, List.cons_append] at h39
             rw [show (69 : Int) % 256 = 69 by decide, show n % 256 = n by omega, show ((mk : Int)) % 256 = mk by omega] at h39
             first | exact h39 | exact absurd rfl ‹_›
           · subst q
             simp only [List.nil_append, List.cons_append] at h39
             rw [show (69 : Int) % 256 = 69 by decide, show n % 256 = n by omega, show ((mk : Int)) % 256 = mk by omega] at h39
             first | exact h39 | (exfalso; omega))
        | exact ih (k + 1) mem59 (by omega) (by omega) (by rw [take_succ' (by omega), List.flatMap_append, ← List.append_assoc]; simpa using hx59.1) (k4.trans hx59.2)
  refine g_aload_n hC dX6_writeTo_0 rfl ?_
  refine g_VV hC (kX5_clear (gl X) (gD X) (gac X) b b0 ob hO8 hv8) cvX5_clear lkX6_43 (by assumption) rfl rfl (Nat.le_of_ble_eq_true rfl) (hI.fit (Nat.le_of_ble_eq_true rfl) (Nat.le_of_ble_eq_true rfl) (Nat.le_of_ble_eq_true rfl)) dX6_writeTo_1 (fun mem1 hx1 => ?_)
  have f1 := hx1.2
  have e1 : mem1 a = mem a := f1 a z1 z2
  refine g_aload_n hC dX6_writeTo_4 rfl ?_
  refine g_bipush hC dX6_writeTo_5 (by decide +kernel) ?_
  refine g_VV hC (kX5_append (gl X) (gD X) (gac X) b b0 [] 69 hO8 hx1.1) cvX5_append lkX6_48 (by assumption) rfl rfl (Nat.le_of_ble_eq_true rfl) (hI.fit (Nat.le_of_ble_eq_true rfl) (Nat.le_of_ble_eq_true rfl) (Nat.le_of_ble_eq_true rfl)) dX6_writeTo_7 (fun mem7 hx7 => ?_)
  rw [if_pos (by decide)] at hx7
  have f7 := f1.trans hx7.2
  have e7 : mem7 a = mem a := f7 a z1 z2
  refine g_aload_n hC dX6_writeTo_10 rfl ?_
  refine g_aload_n hC dX6_writeTo_11 rfl ?_
  refine g_getI hC fdX6_15 (by assumption) dX6_writeTo_12 ?_
  rw [e7, v1]
  refine g_VV hC (kX5_append (gl X) (gD X) (gac X) b b0 _ _ hO8 hx7.1) cvX5_append lkX6_48 (by assumption) rfl rfl (Nat.le_of_ble_eq_true rfl) (hI.fit (Nat.le_of_ble_eq_true rfl) (Nat.le_of_ble_eq_true rfl) (Nat.le_of_ble_eq_true rfl)) dX6_writeTo_15 (fun mem15 hx15 => ?_)
  rw [if_pos (by decide)] at hx15
  have f15 := f7.trans hx15.2
  have e15 : mem15 a = mem a := f15 a z1 z2
  refine g_aload_n hC dX6_writeTo_18 rfl ?_
  refine g_aload_n hC dX6_writeTo_19 rfl ?_
  refine g_getI hC fdX6_19 (by assumption) dX6_writeTo_20 ?_
  rw [e15, v2]
  refine g_if_eq (tgt := 30) hC dX6_writeTo_23 (by decide) ⟨by omega, by omega⟩ (fun h23 => ?_) (fun h23 => ?_)
  · refine g_iconst hC dX6_writeTo_30 ?_
    refine g_VV hC (kX5_append (gl X) (gD X) (gac X) b b0 _ _ hO8 hx15.1) cvX5_append lkX6_48 (by assumption) rfl rfl (Nat.le_of_ble_eq_true rfl) (hI.fit (Nat.le_of_ble_eq_true rfl) (Nat.le_of_ble_eq_true rfl) (Nat.le_of_ble_eq_true rfl)) dX6_writeTo_31 (fun mem31 hx31 => ?_)
    rw [if_pos (by simp)] at hx31
    have f31 := f15.trans hx31.2
    have e31 : mem31 a = mem a := f31 a z1 z2
    refine g_aload_n hC dX6_writeTo_34 rfl ?_
    refine g_aload_n hC dX6_writeTo_35 rfl ?_
    refine g_getI hC fdX6_23 (by assumption) dX6_writeTo_36 ?_
    rw [e31, v4]
    refine g_VV hC (kX5_append (gl X) (gD X) (gac X) b b0 _ _ hO8 hx31.1) cvX5_append lkX6_48 (by assumption) rfl rfl (Nat.le_of_ble_eq_true rfl) (hI.fit (Nat.le_of_ble_eq_true rfl) (Nat.le_of_ble_eq_true rfl) (Nat.le_of_ble_eq_true rfl)) dX6_writeTo_39 (fun mem39 hx39 => ?_)
    rw [if_pos (by simp)] at hx39
    have f39 := f31.trans hx39.2
    refine g_iconst hC dX6_writeTo_42 ?_
    refine g_istore_n hC 2 rfl dX6_writeTo_43 (Nat.le_of_ble_eq_true rfl) ?_
    dsimp only [List.set]
    first
    | (refine J44 (mk + 1) 0 _ (Nat.zero_le _) (by omega) ?_ f39
       have h39 := hx39.1
       simp only [List.take_zero, List.flatMap_nil, List.append_nil]
       rcases v9 with q | q
       · subst q
         simp only [List.nil_append, List.cons_append] at h39
         rw [show (69 : Int) % 256 = 69 by decide, show n % 256 = n by omega, show ((mk : Int)) % 256 = mk by omega] at h39
         first | exact h39 | exact absurd rfl ‹_›
       · subst q
         simp only [List.nil_append, List.cons_append] at h39
         rw [show (69 : Int) % 256 = 69 by decide, show n % 256 = n by omega, show ((mk : Int)) % 256 = mk by omega] at h39
         first | exact h39 | (exfalso; omega))
    | exact ih (k + 1) mem59 (by omega) (by omega) (by rw [take_succ' (by omega), List.flatMap_append, ← List.append_assoc]; simpa using hx59.1) (k4.trans hx59.2)
  · refine g_iconst hC dX6_writeTo_26 ?_
    refine g_goto (tgt := 31) hC dX6_writeTo_27 (by decide) ?_
    refine g_VV hC (kX5_append (gl X) (gD X) (gac X) b b0 _ _ hO8 hx15.1) cvX5_append lkX6_48 (by assumption) rfl rfl (Nat.le_of_ble_eq_true rfl) (hI.fit (Nat.le_of_ble_eq_true rfl) (Nat.le_of_ble_eq_true rfl) (Nat.le_of_ble_eq_true rfl)) dX6_writeTo_31 (fun mem31 hx31 => ?_)
    rw [if_pos (by simp)] at hx31
    have f31 := f15.trans hx31.2
    have e31 : mem31 a = mem a := f31 a z1 z2
    refine g_aload_n hC dX6_writeTo_34 rfl ?_
    refine g_aload_n hC dX6_writeTo_35 rfl ?_
    refine g_getI hC fdX6_23 (by assumption) dX6_writeTo_36 ?_
    rw [e31, v4]
    refine g_VV hC (kX5_append (gl X) (gD X) (gac X) b b0 _ _ hO8 hx31.1) cvX5_append lkX6_48 (by assumption) rfl rfl (Nat.le_of_ble_eq_true rfl) (hI.fit (Nat.le_of_ble_eq_true rfl) (Nat.le_of_ble_eq_true rfl) (Nat.le_of_ble_eq_true rfl)) dX6_writeTo_39 (fun mem39 hx39 => ?_)
    rw [if_pos (by simp)] at hx39
    have f39 := f31.trans hx39.2
    refine g_iconst hC dX6_writeTo_42 ?_
    refine g_istore_n hC 2 rfl dX6_writeTo_43 (Nat.le_of_ble_eq_true rfl) ?_
    dsimp only [List.set]
    first
    | (refine J44 (mk + 1) 0 _ (Nat.zero_le _) (by omega) ?_ f39
       have h39 := hx39.1
       simp only [List.take_zero, List.flatMap_nil, List.append_nil]
       rcases v9 with q | q
       · subst q
         simp only [List.nil_append, List.cons_append] at h39
         rw [show (69 : Int) % 256 = 69 by decide, show n % 256 = n by omega, show ((mk : Int)) % 256 = mk by omega] at h39
         first | exact h39 | exact absurd rfl ‹_›
       · subst q
         simp only [List.nil_append, List.cons_append] at h39
         rw [show (69 : Int) % 256 = 69 by decide, show n % 256 = n by omega, show ((mk : Int)) % 256 = mk by omega] at h39
         first | exact h39 | (exfalso; omega))
    | exact ih (k + 1) mem59 (by omega) (by omega) (by rw [take_succ' (by omega), List.flatMap_append, ← List.append_assoc]; simpa using hx59.1) (k4.trans hx59.2)
set_option maxHeartbeats 4000000 in
set_option maxRecDepth 100000 in
theorem kX6_readFrom (l : Launch) (D : va_G) (ac : Nat → ClassId) {sh : Nat → Nat × Nat} {rf : Nat → Nat → Option Nat} {mem : Nat → Nat → Int} (a a0 : Nat) (n g : Int) (rs : List Int) (mk : Nat) (b b0 : Nat) (ob : List Int) (hO : RsO sh rf a a0) (hv : RsV mem a a0 n g rs mk) (hOb : OcO sh rf b b0) (hvb : OcV mem b b0 ob) (hk : ob.getD 3 0 ≤ 60) : gMet l D ac mX6_readFrom 4 [.ref a, .ref b] 0 0 sh rf mem (pV sh rf (fun mem1 => RsV mem1 a a0 n (if ob.getD 2 0 = 1 then 1 else 0) (wds ob (ob.getD 3 0).toNat) (ob.getD 3 0).toNat ∧ Fr2 mem mem1 a a0)) := by
  refine gMet.mk (by decide) (by intro v hv; simp at hv; (try rcases hv with rfl | rfl) <;> rfl) (Nat.le_of_ble_eq_true rfl) (fun X hC hI => ?_)
  show gG X sh rf mem 0 0 0 [some (.ref a), some (.ref b), none, none] []
  have hO9 := hO
  have hv9 := hv
  obtain ⟨ho, hr0, hs0⟩ := hO
  obtain ⟨v1, v2, v3, v4, v5, v6, v7, v8, v9, v10⟩ := hv
  have n1 := hO9.ne
  have n2 := n1.symm
  have hO8 := hOb
  have hv8 := hvb
  obtain ⟨bo, br0, bs0⟩ := hOb
  have z1 : a ≠ b := by rintro rfl; simp_all
  have z2 : a ≠ b0 := by rintro rfl; simp_all
  have z3 : a0 ≠ b := by rintro rfl; simp_all
  have z4 : a0 ≠ b0 := by rintro rfl; simp_all
  have q3 := OcV.at hv8 3
  have J31 : ∀ (t k : Nat) (m1 : Nat → Nat → Int), k ≤ (ob.getD 3 0).toNat → (ob.getD 3 0).toNat < k + t → RsW m1 a a0 n (if ob.getD 2 0 = 1 then 1 else 0) (wds ob k) mk → Fr2 mem m1 a a0 → gG X sh rf m1 0 0 31 [some (.ref a), some (.ref b), some (.int (iI (ob.getD 3 0))), some (.int (iI k))] [] := by
    intro t
    induction t with
    | zero => intro k m1 k1 k2; omega
    | succ t ih =>
      intro k m1 k1 k2 k3 k4
      refine g_iload_n hC dX6_readFrom_31 rfl ?_
      refine g_iload_n hC dX6_readFrom_32 rfl ?_
      refine g_icmp_ge (tgt := 56) hC dX6_readFrom_33 (by decide) ⟨by omega, by omega⟩ ⟨by omega, by omega⟩ (fun h33 => ?_) (fun h33 => ?_)
      · refine g_aload_n hC dX6_readFrom_56 rfl ?_
        refine g_aload_n hC dX6_readFrom_57 rfl ?_
        refine g_getI hC fdX6_26 (by assumption) dX6_readFrom_58 ?_
        refine g_putI hC fdX6_23 (by assumption) rfl rfl dX6_readFrom_61 ?_
        refine g_vret hC hI rfl dX6_readFrom_64 (Nat.le_of_ble_eq_true rfl) (Nat.le_of_ble_eq_true rfl) ⟨rfl, rfl, rfl, ?_⟩
        have q : k = (ob.getD 3 0).toNat := by omega
        obtain ⟨w1, w2, w3, w4, w5, w6, w7, w8, w9, w10⟩ := k3
        rw [wds_len] at w3 w5
        rw [← q]
        refine ⟨⟨?_, ?_, ?_, ?_, by rw [wds_len]; exact w5, by rw [wds_len]; exact Nat.le_refl _, w7, w8, w9, fun i hi => ?_⟩, fun c c1 c2 => by funext j; rw [gup_a _ _ _ _ c1, k4 c c1 c2]⟩
        · rw [gup_k _ _ _ _ (by decide)]; exact w1
        · rw [gup_k _ _ _ _ (by decide)]; exact w2
        · rw [gup_k _ _ _ _ (by decide), wds_len]; exact w3
        · rw [gup_s]; exact w3
        · rw [gup_a _ _ _ _ n2]; exact w10 i hi
      · refine g_aload_n hC dX6_readFrom_36 rfl ?_
        refine g_aload_n hC dX6_readFrom_37 rfl ?_
        refine g_iconst hC dX6_readFrom_38 ?_
        refine g_iconst hC dX6_readFrom_39 ?_
        refine g_iload_n hC dX6_readFrom_40 rfl ?_
        refine g_imul hC dX6_readFrom_41 ?_
        refine g_iadd hC dX6_readFrom_42 ?_
        refine g_VP hC (kX5_wordAt (gl X) (gD X) (gac X) b b0 ob _ hO8 (OcV.fr ⟨k4 b z1.symm z3.symm, k4 b0 z2.symm z4.symm⟩ hv8) ⟨by omega, by omega⟩) cvX5_wordAt lkX6_58 (by assumption) rfl rfl (Nat.le_of_ble_eq_true rfl) (hI.fit (Nat.le_of_ble_eq_true rfl) (Nat.le_of_ble_eq_true rfl) (Nat.le_of_ble_eq_true rfl)) dX6_readFrom_43 (fun x43 hx43 => ?_)
        have e43 : x43 = wd ob (4 + 4 * k) := by rw [hx43, show (4 + 4 * (k : Int)).toNat = 4 + 4 * k by omega]
        subst e43
        refine g_VM hC (kX6_add (gl X) (gD X) (gac X) a a0 n (if ob.getD 2 0 = 1 then 1 else 0) (wds ob k) mk (wd ob (4 + 4 * k)) hO9 k3) cvX6_add lkX6_39 (by assumption) rfl rfl (Nat.le_of_ble_eq_true rfl) (hI.fit (Nat.le_of_ble_eq_true rfl) (Nat.le_of_ble_eq_true rfl) (Nat.le_of_ble_eq_true rfl)) dX6_readFrom_46 (fun x46 mem46 hx46 => ?_)
        rw [wds_len] at hx46
        replace hx46 := hx46.resolve_left (by omega)
        refine g_pop hC dX6_readFrom_49 rfl ?_
        refine g_iinc hC dX6_readFrom_50 rfl ?_
        dsimp only [List.set]
        refine g_goto (tgt := 31) hC dX6_readFrom_53 (by decide) ?_
        first
        | exact J31 ((ob.getD 3 0).toNat + 1) 0 _ (Nat.zero_le _) (by omega) (by rw [← g20] at w20; rw [← g20]; exact w20) f20
        | exact J31 ((ob.getD 3 0).toNat + 1) 0 _ (Nat.zero_le _) (by omega) (by rw [g20]; exact w20) f20
        | exact ih (k + 1) mem46 (by omega) (by omega) (by rw [wds]; exact hx46.2.2.1) (k4.trans hx46.2.2.2)
  refine g_aload_n hC dX6_readFrom_0 rfl ?_
  refine g_aload_n hC dX6_readFrom_1 rfl ?_
  refine g_iconst hC dX6_readFrom_2 ?_
  refine g_VP hC (kX5_valueAt (gl X) (gD X) (gac X) b b0 ob 2 hO8 hv8 ⟨by decide, by decide⟩) cvX5_valueAt lkX6_55 (by assumption) rfl rfl (Nat.le_of_ble_eq_true rfl) (hI.fit (Nat.le_of_ble_eq_true rfl) (Nat.le_of_ble_eq_true rfl) (Nat.le_of_ble_eq_true rfl)) dX6_readFrom_3 (fun x3 hx3 => ?_)
  have e3 : x3 = ob.getD 2 0 := by
    have := hx3.2.2
    simpa using this
  refine g_iconst hC dX6_readFrom_6 ?_
  refine g_icmp_ne (tgt := 14) hC dX6_readFrom_7 (by decide) ⟨by omega, by omega⟩ ⟨by omega, by omega⟩ (fun h7 => ?_) (fun h7 => ?_)
  · refine g_iconst hC dX6_readFrom_14 ?_
    refine g_putI hC fdX6_19 (by assumption) (by decide +kernel) (by decide +kernel) dX6_readFrom_15 ?_
    refine g_aload_n hC dX6_readFrom_18 rfl ?_
    refine g_iconst hC dX6_readFrom_19 ?_
    refine g_putI hC fdX6_26 (by assumption) rfl rfl dX6_readFrom_20 ?_
    refine g_aload_n hC dX6_readFrom_23 rfl ?_
    refine g_iconst hC dX6_readFrom_24 ?_
    have f20 : Fr2 mem (gup (gup mem a 2 (if ob.getD 2 0 = 1 then 1 else 0)) a 3 0) a a0 := fun c c1 c2 => by funext j; rw [gup_a _ _ _ _ c1, gup_a _ _ _ _ c1]
    have w20 : RsW (gup (gup mem a 2 (if ob.getD 2 0 = 1 then 1 else 0)) a 3 0) a a0 n (if ob.getD 2 0 = 1 then 1 else 0) [] mk := by
      refine ⟨?_, ?_, ?_, ?_, by decide, by omega, v7, v8, by split <;> simp, fun i hi => absurd hi (Nat.not_lt_zero i)⟩
      · rw [gup_k _ _ _ _ (by decide), gup_k _ _ _ _ (by decide)]; exact v1
      · rw [gup_k _ _ _ _ (by decide), gup_s]
      · rw [gup_s]; rfl
      · rw [gup_k _ _ _ _ (by decide), gup_k _ _ _ _ (by decide)]; exact v4
    have c20 : (if ob.getD 2 0 = 1 then (1 : Int) else 0) = 1 ∨ (if ob.getD 2 0 = 1 then (1 : Int) else 0) = 0 := by split <;> simp
    first
    | (have g20 : (if ob.getD 2 0 = 1 then (1 : Int) else 0) = 1 := if_pos (by omega)
       rw [g20] at f20 w20)
    | (have g20 : (if ob.getD 2 0 = 1 then (1 : Int) else 0) = 0 := if_neg (by omega)
       rw [g20] at f20 w20)
    have hv25 := OcV.fr ⟨f20 b z1.symm z3.symm, f20 b0 z2.symm z4.symm⟩ hv8
    refine g_VP hC (kX5_valueAt (gl X) (gD X) (gac X) b b0 ob 3 hO8 hv25 ⟨by decide, by decide⟩) cvX5_valueAt lkX6_55 (by assumption) rfl rfl (Nat.le_of_ble_eq_true rfl) (hI.fit (Nat.le_of_ble_eq_true rfl) (Nat.le_of_ble_eq_true rfl) (Nat.le_of_ble_eq_true rfl)) dX6_readFrom_25 (fun x25 hx25 => ?_)
    have e25 : x25 = ob.getD 3 0 := by
      have := hx25.2.2
      simpa using this
    subst e25
    refine g_istore_n hC 2 rfl dX6_readFrom_28 (Nat.le_of_ble_eq_true rfl) ?_
    dsimp only [List.set]
    refine g_iconst hC dX6_readFrom_29 ?_
    refine g_istore_n hC 3 rfl dX6_readFrom_30 (Nat.le_of_ble_eq_true rfl) ?_
    dsimp only [List.set]
    first
    | exact J31 ((ob.getD 3 0).toNat + 1) 0 _ (Nat.zero_le _) (by omega) (by rw [← g20] at w20; rw [← g20]; exact w20) f20
    | exact J31 ((ob.getD 3 0).toNat + 1) 0 _ (Nat.zero_le _) (by omega) (by rw [g20]; exact w20) f20
    | exact ih (k + 1) mem46 (by omega) (by omega) (by rw [wds]; exact hx46.2.2.1) (k4.trans hx46.2.2.2)
  · refine g_iconst hC dX6_readFrom_10 ?_
    refine g_goto (tgt := 15) hC dX6_readFrom_11 (by decide) ?_
    refine g_putI hC fdX6_19 (by assumption) (by decide +kernel) (by decide +kernel) dX6_readFrom_15 ?_
    refine g_aload_n hC dX6_readFrom_18 rfl ?_
    refine g_iconst hC dX6_readFrom_19 ?_
    refine g_putI hC fdX6_26 (by assumption) rfl rfl dX6_readFrom_20 ?_
    refine g_aload_n hC dX6_readFrom_23 rfl ?_
    refine g_iconst hC dX6_readFrom_24 ?_
    have f20 : Fr2 mem (gup (gup mem a 2 (if ob.getD 2 0 = 1 then 1 else 0)) a 3 0) a a0 := fun c c1 c2 => by funext j; rw [gup_a _ _ _ _ c1, gup_a _ _ _ _ c1]
    have w20 : RsW (gup (gup mem a 2 (if ob.getD 2 0 = 1 then 1 else 0)) a 3 0) a a0 n (if ob.getD 2 0 = 1 then 1 else 0) [] mk := by
      refine ⟨?_, ?_, ?_, ?_, by decide, by omega, v7, v8, by split <;> simp, fun i hi => absurd hi (Nat.not_lt_zero i)⟩
      · rw [gup_k _ _ _ _ (by decide), gup_k _ _ _ _ (by decide)]; exact v1
      · rw [gup_k _ _ _ _ (by decide), gup_s]
      · rw [gup_s]; rfl
      · rw [gup_k _ _ _ _ (by decide), gup_k _ _ _ _ (by decide)]; exact v4
    have c20 : (if ob.getD 2 0 = 1 then (1 : Int) else 0) = 1 ∨ (if ob.getD 2 0 = 1 then (1 : Int) else 0) = 0 := by split <;> simp
    first
    | (have g20 : (if ob.getD 2 0 = 1 then (1 : Int) else 0) = 1 := if_pos (by omega)
       rw [g20] at f20 w20)
    | (have g20 : (if ob.getD 2 0 = 1 then (1 : Int) else 0) = 0 := if_neg (by omega)
       rw [g20] at f20 w20)
    have hv25 := OcV.fr ⟨f20 b z1.symm z3.symm, f20 b0 z2.symm z4.symm⟩ hv8
    refine g_VP hC (kX5_valueAt (gl X) (gD X) (gac X) b b0 ob 3 hO8 hv25 ⟨by decide, by decide⟩) cvX5_valueAt lkX6_55 (by assumption) rfl rfl (Nat.le_of_ble_eq_true rfl) (hI.fit (Nat.le_of_ble_eq_true rfl) (Nat.le_of_ble_eq_true rfl) (Nat.le_of_ble_eq_true rfl)) dX6_readFrom_25 (fun x25 hx25 => ?_)
    have e25 : x25 = ob.getD 3 0 := by
      have := hx25.2.2
      simpa using this
    subst e25
    refine g_istore_n hC 2 rfl dX6_readFrom_28 (Nat.le_of_ble_eq_true rfl) ?_
    dsimp only [List.set]
    refine g_iconst hC dX6_readFrom_29 ?_
    refine g_istore_n hC 3 rfl dX6_readFrom_30 (Nat.le_of_ble_eq_true rfl) ?_
    dsimp only [List.set]
    first
    | exact J31 ((ob.getD 3 0).toNat + 1) 0 _ (Nat.zero_le _) (by omega) (by rw [← g20] at w20; rw [← g20]; exact w20) f20
    | exact J31 ((ob.getD 3 0).toNat + 1) 0 _ (Nat.zero_le _) (by omega) (by rw [g20]; exact w20) f20
    | exact ih (k + 1) mem46 (by omega) (by omega) (by rw [wds]; exact hx46.2.2.1) (k4.trans hx46.2.2.2)
set_option maxHeartbeats 4000000 in
set_option maxRecDepth 100000 in
theorem kX6_init (l : Launch) (D : va_G) (ac : Nat → ClassId) {sh : Nat → Nat × Nat} {rf : Nat → Nat → Option Nat} {mem : Nat → Nat → Int} (a : Nat) (n g : Int) (ho : sh a = (6, 0)) (hz : mem a = fun _ => 0) (hn : 0 ≤ n ∧ n < 100) (hg : g = 0 ∨ g = 1) : gMet l D ac mX6_init 1 [.ref a, .int (iI n), .int (iI g)] 1 60 sh rf mem (pU (fun sh1 rf1 mem1 => ∃ a0, (sh a0).1 = 0 ∧ RsO sh1 rf1 a a0 ∧ RsV mem1 a a0 n g [] 0 ∧ (∀ b, b ≠ a0 → sh1 b = sh b) ∧ (∀ b, b ≠ a → b ≠ a0 → rf1 b = rf b) ∧ (∀ b, b ≠ a → b ≠ a0 → mem1 b = mem b))) := by
  refine gMet.mk (by decide) (by intro v hv; simp at hv; (try rcases hv with rfl | rfl | rfl) <;> rfl) (Nat.le_of_ble_eq_true rfl) (fun X hC hI => ?_)
  show gG X sh rf mem 0 0 0 [some (.ref a), some (.int (iI n)), some (.int (iI g))] []
  refine g_aload_n hC dX6_init_0 rfl ?_
  refine g_objInit hC lkX6_3 oi_in oi_co (by rw [hI.rm]; exact (Nat.le_of_ble_eq_true rfl)) (by rw [hI.rm]; exact (Nat.le_of_ble_eq_true rfl)) dX6_init_1 ?_
  refine g_aload_n hC dX6_init_4 rfl ?_
  refine g_bipush hC dX6_init_5 (by decide +kernel) ?_
  refine g_newaN (atype := .int) 60 hC arr_int rfl (Or.inr (Or.inl ⟨rfl, rfl, rfl⟩)) rfl (by decide) (by rw [hI.rm]; exact (Nat.le_of_ble_eq_true rfl)) (by rw [hI.rm]; exact (Nat.le_of_ble_eq_true rfl)) dX6_init_7 (fun q7 sh7 rf7 mem7 hq7 esh7 erf7 emem7 => ?_)
  have ho7 := sh_keep esh7 hq7 ho (by decide)
  have s7 := sh_new esh7
  have z7 := sh_ne hq7 ho (by decide)
  refine g_putR hC fdX6_9 hI.nm (fun C T N h => by cases h; rfl) (by assumption) rfl rfl dX6_init_9 ?_
  refine g_aload_n hC dX6_init_12 rfl ?_
  refine g_iload_n hC dX6_init_13 rfl ?_
  refine g_putI hC fdX6_15 (by assumption) rfl rfl dX6_init_14 ?_
  refine g_aload_n hC dX6_init_17 rfl ?_
  refine g_iload_n hC dX6_init_18 rfl ?_
  refine g_putI hC fdX6_19 (by assumption) (by rcases hg with rfl | rfl <;> decide +kernel) (by rcases hg with rfl | rfl <;> decide +kernel) dX6_init_19 ?_
  refine g_vret hC hI rfl dX6_init_22 (Nat.le_of_ble_eq_true rfl) (Nat.le_of_ble_eq_true rfl) ⟨rfl, ?_⟩
  refine ⟨q7, hq7, ⟨ho7, gur_s _ _ _ _, s7⟩, ⟨?_, gup_s _ _ _ _, ?_, ?_, by decide, by decide, hn.1, hn.2, hg, fun i hi => absurd hi (Nat.not_lt_zero i)⟩, fun b b0 => ?_, fun b b9 b0 => ?_, fun b b9 b0 => ?_⟩
  · rw [gup_k _ _ _ _ (by decide), gup_s]
  · rw [gup_k _ _ _ _ (by decide), gup_k _ _ _ _ (by decide), emem7, va_up_ne _ _ z7, hz]; rfl
  · rw [gup_k _ _ _ _ (by decide), gup_k _ _ _ _ (by decide), emem7, va_up_ne _ _ z7, hz]; rfl
  · rw [esh7, va_up_ne _ _ b0]
  · funext k
    rw [gur_a _ _ _ _ b9, erf7, va_up_ne _ _ b0]
  · funext k
    rw [gup_a _ _ _ _ b9, gup_a _ _ _ _ b9, emem7, va_up_ne _ _ b0]
