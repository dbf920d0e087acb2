def aheadOk (n : Int) : Prop := 0 ≤ n ∧ n ≤ 9
def chR (ch : Lns) (n c : Int) (ys : Lns) : Prop := (¬ (1 ≤ n ∧ n ≤ 9999) → ys = ch) ∧ (¬ (c = 0 ∨ (32 ≤ c ∧ c ≤ 126)) → ys = ch) ∧ (1 ≤ n ∧ n ≤ 9999 → c = 0 → ys = chDel ch n) ∧ (1 ≤ n ∧ n ≤ 9999 → 32 ≤ c ∧ c ≤ 126 → chSig ch n c (tk ch n) ys)
def updR (ms : List (Option MemT)) (ch : Lns) (m : Int) : Int := match memAt ms m with
  | none => -100
  | some q => if rfS q.2.2 ch 0 q.2.2.length 0 = 0 then (upS q.2.2 ch).length else -rfS q.2.2 ch 0 q.2.2.length 0
def updS (ms : List (Option MemT)) (ch : Lns) (m : Int) : List (Option MemT) := match memAt ms m with
  | none => ms
  | some q => if rfS q.2.2 ch 0 q.2.2.length 0 = 0 then ms.set (m - 1).toNat (some (q.1, q.2.1, upS q.2.2 ch)) else ms
def updC (ms : List (Option MemT)) (ch : Lns) (m : Int) : Lns := match memAt ms m with
  | none => ch
  | some _ => []
def defR (ss : List (Option SetT)) (n : Int) : Int := if ¬ (0 ≤ n ∧ n < 100) then -4 else if numS ss n ≠ 0 then -5 else if ss.length < 20 then ss.length + 1 else -1
def defS (ss : List (Option SetT)) (n v : Int) : List (Option SetT) := if (0 ≤ n ∧ n < 100) ∧ numS ss n = 0 ∧ ss.length < 20 then ss ++ [some (n, v, [], 0)] else ss
def recR (ss : List (Option SetT)) (s : Int) : Int := match setAt ss s with
  | none => -2
  | some q => if q.2.2.1.length < 60 then q.2.2.1.length + 1 else -1
def recS (ss : List (Option SetT)) (s v : Int) : List (Option SetT) := match setAt ss s with
  | none => ss
  | some q => if q.2.2.1.length < 60 then ss.set (s - 1).toNat (some (q.1, q.2.1, q.2.2.1 ++ [v], q.2.2.2)) else ss
def delC (ss : List (Option SetT)) (n : Int) : Int := match setAt ss n with | none => -2 | some x => if x.2.1 = 1 then 8 else 0
def delS (ss : List (Option SetT)) (n y : Int) : List (Option SetT) := if y = 0 ∧ delC ss n = 0 then ss.set (n - 1).toNat none else ss
def altC (ss : List (Option SetT)) (n m : Int) : Int := match setAt ss n with | none => -2 | some _ => if ¬ (0 ≤ m ∧ m < 100) then -4 else if numS ss m = 0 then 0 else if (numS ss m : Int) = n then 4 else 8
def altS (ss : List (Option SetT)) (n m y : Int) : List (Option SetT) := match setAt ss n with | none => ss | some q => if y = 0 ∧ altC ss n m = 0 then ss.set (n - 1).toNat (some (m, q.2)) else ss
def repC (ss : List (Option SetT)) (f t : Int) : Int := match setAt ss f, setAt ss t with | some x, some y => if f = t then 8 else if 60 < x.2.2.2 + y.2.2.2 then 12 else if x.2.2.2 = 0 then 4 else 0 | _, _ => -2
def repS (ss : List (Option SetT)) (f t y : Int) : List (Option SetT) := match setAt ss f, setAt ss t with | some p, some q => (if y = 0 ∧ repC ss f t = 0 then ss.set (t - 1).toNat (some (q.1, q.2.1, q.2.2.1.take q.2.2.2 ++ p.2.2.1.take p.2.2.2, q.2.2.2 + p.2.2.2)) else ss) | _, _ => ss
def genC (ss : List (Option SetT)) (n c : Int) : Int := match setAt ss n with | none => -2 | some x => if c < 1 ∨ 60 < c then -4 else if x.2.2.2 + c ≤ 60 then 0 else 12
def genS (ss : List (Option SetT)) (n c v s y : Int) : List (Option SetT) := match setAt ss n with | none => ss | some q => if y = 0 ∧ genC ss n c = 0 then ss.set (n - 1).toNat (some (q.1, q.2.1, q.2.2.1.take q.2.2.2 ++ ser v s c.toNat, q.2.2.2 + c.toNat)) else ss
def verC (ss : List (Option SetT)) (n : Int) : Int := match setAt ss n with | none => -2 | some x => if x.2.2.2 = x.2.2.1.length then 4 else 0
def verS (ss : List (Option SetT)) (n y : Int) : List (Option SetT) := match setAt ss n with | none => ss | some q => if y = 0 then ss.set (n - 1).toNat (some (q.1, q.2.1, q.2.2.1, q.2.2.1.length)) else ss
def expR (ss : List (Option SetT)) (n : Int) : Int := match setAt ss n with | none => -2 | some q => (expo q.1 q.2.1 q.2.2.1 q.2.2.2).length
def expS (ss : List (Option SetT)) (ex : List Int) (n : Int) : List Int := match setAt ss n with | none => ex | some q => expo q.1 q.2.1 q.2.2.1 q.2.2.2
def findR (rp : List Int) (ms : List (Option MemT)) (l n : Int) : Int := if 1 ≤ l ∧ l ≤ rp.length then memS ms l n else -2
def letR (ms : List (Option MemT)) (m i k : Int) : Int := match memAt ms m with
  | none => -1
  | some q => if 0 ≤ i ∧ i < q.2.2.length then (if k = -1 then nu q.2.2 i.toNat else if 0 ≤ k ∧ k < (sg q.2.2 i.toNat).length then (sg q.2.2 i.toNat).getD k.toNat 0 else -1) else -1
def setR (ss : List (Option SetT)) (n w : Int) : Int := match setAt ss n with | none => -1 | some q => tellS q.1 q.2.1 q.2.2.1 q.2.2.2 w
def couR (rp : List Int) (ms : List (Option MemT)) (ss : List (Option SetT)) (ch : Lns) (ds : Dfs) (ar : List Int) (w : Int) : Int := if w = 0 then rp.length else if w = 1 then ms.length else if w = 2 then ss.length else if w = 3 then ch.length else if w = 4 then ds.length else if w = 5 then ar.length else -1
def fitP (ss : List (Option SetT)) (ar : List Int) (v : Int) : Prop := (ar.length = 0 → v = 69) ∧ (ar.length = 1 → (0 ≤ v ∧ v < 100) ∧ canT ss v) ∧ (ar.length = 2 → v ≤ 1) ∧ (ar.length = 3 → v ≤ 60)
def whP (ar : List Int) : Prop := 4 ≤ ar.length ∧ 4 + 4 * ar.getD 3 0 ≤ ar.length
def arI (ar : List Int) : Prop := (2 ≤ ar.length → 0 ≤ ar.getD 1 0 ∧ ar.getD 1 0 < 100) ∧ (4 ≤ ar.length → 0 ≤ ar.getD 3 0 ∧ ar.getD 3 0 ≤ 60 ∧ ar.length < 4 + 4 * ar.getD 3 0)
section SQ
variable {ms : List (Option MemT)} {ss : List (Option SetT)} {ch : Lns} {ar : List Int}
theorem rfS_le (xs : Lns) : ∀ (ch : Lns) (k z b : Int), 0 ≤ k → 0 ≤ rfS xs ch k z b ∧ rfS xs ch k z b ≤ k + ch.length
  | [], k, z, b, h => ⟨Int.le_refl _, by show (0 : Int) ≤ k + 0; omega⟩
  | c :: t, k, z, b, h => by
    have q := rfS_le xs t (k + 1) (if c.2 = [] then z - 1 else if nu xs (plc xs c.1) = c.1 then z else z + 1) c.1 (by omega)
    rw [rfS, List.length_cons]
    generalize (if c.2 = [] then z - 1 else if nu xs (plc xs c.1) = c.1 then z else z + 1) = zz at q ⊢
    split <;> omega
theorem memAt_set {k : Int} {q p : MemT} (h : memAt ms k = some q) : memAt (ms.set (k - 1).toNat (some p)) k = some p := by
  obtain ⟨h1, h2, h3⟩ := memAt_some h
  rw [memAt, if_pos h1, getD_setM (by omega), if_pos rfl]
theorem set_selfS {k : Nat} {q : SetT} (h : ss.getD k none = some q) : ss.set k (some q) = ss := by
  apply List.ext_getElem?
  intro j
  rw [List.getElem?_set]
  by_cases e : k = j
  · subst e
    rw [List.getD_eq_getElem?_getD] at h
    cases e2 : ss[k]? with
    | none => rw [e2] at h; simp at h
    | some v =>
      rw [e2] at h
      have hk : k < ss.length := by
        apply Classical.byContradiction
        intro w
        rw [List.getElem?_eq_none (by omega)] at e2
        simp at e2
      rw [if_pos rfl, if_pos hk]
      simp at h
      rw [h]
  · rw [if_neg e]
theorem setAt_of {k : Int} (h : setAt ss k = none) (h1 : 1 ≤ k) (h2 : k ≤ ss.length) : ss.getD (k - 1).toNat none = none := by
  rw [setAt, if_pos h1] at h; exact h
theorem delC_0 {n : Int} (h : delC ss n = 0 ∨ delC ss n = 4) : delC ss n = 0 ∧ ∃ u, setAt ss n = some u := by
  cases e : setAt ss n with
  | none =>
    have w : delC ss n = -2 := by rw [delC, e]
    omega
  | some u =>
    have w : delC ss n = if u.2.1 = 1 then 8 else 0 := by rw [delC, e]
    by_cases v : u.2.1 = 1
    · rw [if_pos v] at w; omega
    · rw [if_neg v] at w; exact ⟨w, u, rfl⟩
end SQ
set_option maxHeartbeats 4000000 in
set_option maxRecDepth 100000 in
theorem kX9_compare (lc : Launch) (D : va_G) (ac : Nat → ClassId) {sh : Nat → Nat × Nat} {rf : Nat → Nat → Option Nat} {mem : Nat → Nat → Int} (G : Nat → Prop) (x : Nat) (A la l0 l1 l2 sa ra : Nat → Nat) (rp ex ar : List Int) (ms : List (Option MemT)) (ss : List (Option SetT)) (ch : Lns) (ds : Dfs) (lk : Nat) (g y z : Int) (a b : Int) (hW : WXa G sh rf mem x A la l0 l1 l2 sa ra rp ms ss ch ds lk ex ar g y z) (h_p : inR a) (h_q : inR b) : gMet lc D ac mX9_compare 6 [.ref x, .int (iI a), .int (iI b)] 0 0 sh rf mem (pA (fun r sh1 rf1 mem1 => ((memAt ms a = none ∨ memAt ms b = none) ∧ r = -2 ∧ WN G sh rf mem sh1 rf1 mem1 x A rp ms ss ch ds lk ex ar g y z) ∨ (∃ p q es, memAt ms a = some p ∧ memAt ms b = some q ∧ cmR lk p.2.2 q.2.2 100 0 0 [] es ∧ r = es.length ∧ WN G sh rf mem sh1 rf1 mem1 x A rp ms ss ch es lk ex ar g y z))) := by
  refine gMet.mk (by decide) (by intro v hv; simp at hv; (try rcases hv with rfl | rfl | rfl) <;> rfl) (Nat.le_of_ble_eq_true rfl) (fun X hC hI => ?_)
  show gG X sh rf mem 0 0 0 [some (.ref x), some (.int (iI a)), some (.int (iI b)), none, none] []
  have hW9 := hW
  obtain ⟨⟨ho, r0, r1, r2, r3, r4, r5, r6⟩, ⟨hL, hLv⟩, hR, ⟨hCt, hCo, hCi, hCv⟩, ⟨hMo, hMv, hMl, hMk⟩, ⟨hEo, hEv⟩, ⟨hAo, hAv⟩, ⟨hSo, hS0, hS1, hS2, hSg, hSh, hSy⟩, hD, hG⟩ := hW
  have hLo := hL.1
  have hRo := hR.1
  have hTo := hCt.1
  have hMo1 := hMo.1
  have hEo1 := hEo.1
  have hAo1 := hAo.1
  have i_p := h_p
  obtain ⟨p1, p2⟩ := h_p
  have i_q := h_q
  obtain ⟨q1, q2⟩ := h_q
  refine g_aload_n hC dX9_compare_0 rfl ?_
  refine g_getR hC fdX9_10 (by assumption) (by assumption) dX9_compare_1 ?_
  refine g_iload_n hC dX9_compare_4 rfl ?_
  refine g_VR hC (kX3_linesOf (gl X) (gD X) (gac X) (A 0) (A 1) (A 2) (A 3) la l0 l1 l2 rp ms a hL hLv i_p) cvX3_linesOf lkX9_72 (by assumption) rfl rfl (Nat.le_of_ble_eq_true rfl) (hI.fit (Nat.le_of_ble_eq_true rfl) (Nat.le_of_ble_eq_true rfl) (Nat.le_of_ble_eq_true rfl)) dX9_compare_5 (fun x5 hx5 => ?_)
  rcases e5 : memAt ms (a) with _ | y5
  · rw [e5] at hx5
    subst hx5
    refine g_astore_nN hC 3 rfl dX9_compare_8 (Nat.le_of_ble_eq_true rfl) ?_
    dsimp only [List.set]
    refine g_aload_n hC dX9_compare_9 rfl ?_
    refine g_getR hC fdX9_10 (by assumption) (by assumption) dX9_compare_10 ?_
    refine g_iload_n hC dX9_compare_13 rfl ?_
    refine g_VR hC (kX3_linesOf (gl X) (gD X) (gac X) (A 0) (A 1) (A 2) (A 3) la l0 l1 l2 rp ms b hL hLv i_q) cvX3_linesOf lkX9_72 (by assumption) rfl rfl (Nat.le_of_ble_eq_true rfl) (hI.fit (Nat.le_of_ble_eq_true rfl) (Nat.le_of_ble_eq_true rfl) (Nat.le_of_ble_eq_true rfl)) dX9_compare_14 (fun x14 hx14 => ?_)
    rcases e14 : memAt ms (b) with _ | y14
    · rw [e14] at hx14
      subst hx14
      refine g_astoreN hC dX9_compare_17 (Nat.le_of_ble_eq_true rfl) ?_
      dsimp only [List.set]
      refine g_aload_nN hC dX9_compare_19 rfl ?_
      refine g_ifnullN (tgt := 28) hC dX9_compare_20 (by decide) ?_
      refine g_bipush hC dX9_compare_28 (by decide +kernel) ?_
      refine g_iret hC hI rfl dX9_compare_30 (Nat.le_of_ble_eq_true rfl) (Nat.le_of_ble_eq_true rfl) ⟨_, rfl, ?_⟩
      first | exact Or.inl ⟨Or.inl e5, rfl, WN.of ⟨hW9, fun b hb => Un.rf0⟩⟩ | exact Or.inl ⟨Or.inr e14, rfl, WN.of ⟨hW9, fun b hb => Un.rf0⟩⟩
    · rw [e14] at hx14
      subst hx14
      obtain ⟨O14, I14, V14⟩ := LbV.at hLv e14
      have o14 := O14.1
      refine g_astore hC dX9_compare_17 (Nat.le_of_ble_eq_true rfl) ?_
      dsimp only [List.set]
      refine g_aload_nN hC dX9_compare_19 rfl ?_
      refine g_ifnullN (tgt := 28) hC dX9_compare_20 (by decide) ?_
      refine g_bipush hC dX9_compare_28 (by decide +kernel) ?_
      refine g_iret hC hI rfl dX9_compare_30 (Nat.le_of_ble_eq_true rfl) (Nat.le_of_ble_eq_true rfl) ⟨_, rfl, ?_⟩
      first | exact Or.inl ⟨Or.inl e5, rfl, WN.of ⟨hW9, fun b hb => Un.rf0⟩⟩ | exact Or.inl ⟨Or.inr e14, rfl, WN.of ⟨hW9, fun b hb => Un.rf0⟩⟩
  · rw [e5] at hx5
    subst hx5
    obtain ⟨O5, I5, V5⟩ := LbV.at hLv e5
    have o5 := O5.1
    refine g_astore_n hC 3 rfl dX9_compare_8 (Nat.le_of_ble_eq_true rfl) ?_
    dsimp only [List.set]
    refine g_aload_n hC dX9_compare_9 rfl ?_
    refine g_getR hC fdX9_10 (by assumption) (by assumption) dX9_compare_10 ?_
    refine g_iload_n hC dX9_compare_13 rfl ?_
    refine g_VR hC (kX3_linesOf (gl X) (gD X) (gac X) (A 0) (A 1) (A 2) (A 3) la l0 l1 l2 rp ms b hL hLv i_q) cvX3_linesOf lkX9_72 (by assumption) rfl rfl (Nat.le_of_ble_eq_true rfl) (hI.fit (Nat.le_of_ble_eq_true rfl) (Nat.le_of_ble_eq_true rfl) (Nat.le_of_ble_eq_true rfl)) dX9_compare_14 (fun x14 hx14 => ?_)
    rcases e14 : memAt ms (b) with _ | y14
    · rw [e14] at hx14
      subst hx14
      refine g_astoreN hC dX9_compare_17 (Nat.le_of_ble_eq_true rfl) ?_
      dsimp only [List.set]
      refine g_aload_n hC dX9_compare_19 rfl ?_
      refine g_ifnullR hC dX9_compare_20 ?_
      refine g_aloadN hC dX9_compare_23 rfl ?_
      refine g_ifnonnullN hC dX9_compare_25 ?_
      refine g_bipush hC dX9_compare_28 (by decide +kernel) ?_
      refine g_iret hC hI rfl dX9_compare_30 (Nat.le_of_ble_eq_true rfl) (Nat.le_of_ble_eq_true rfl) ⟨_, rfl, ?_⟩
      first | exact Or.inl ⟨Or.inl e5, rfl, WN.of ⟨hW9, fun b hb => Un.rf0⟩⟩ | exact Or.inl ⟨Or.inr e14, rfl, WN.of ⟨hW9, fun b hb => Un.rf0⟩⟩
    · rw [e14] at hx14
      subst hx14
      obtain ⟨O14, I14, V14⟩ := LbV.at hLv e14
      have o14 := O14.1
      refine g_astore hC dX9_compare_17 (Nat.le_of_ble_eq_true rfl) ?_
      dsimp only [List.set]
      refine g_aload_n hC dX9_compare_19 rfl ?_
      refine g_ifnullR hC dX9_compare_20 ?_
      refine g_aload hC dX9_compare_23 rfl ?_
      refine g_ifnonnullR (tgt := 31) hC dX9_compare_25 (by decide) ?_
      refine g_aload_n hC dX9_compare_31 rfl ?_
      refine g_getR hC fdX9_33 (by assumption) (by assumption) dX9_compare_32 ?_
      refine g_aload_n hC dX9_compare_35 rfl ?_
      refine g_aload hC dX9_compare_36 rfl ?_
      refine g_VV hC (kX1_run (gl X) (gD X) (gac X) (A 11) (A 12) (A 13) (A 14) ds _ _ _ _ _ _ _ _ y5.2.2 y14.2.2 lk hMo hMv O5 I5 V5 O14 I14 V14 ⟨hMl, hMk⟩) cvX1_run lkX9_105 (by assumption) rfl rfl (Nat.le_of_ble_eq_true rfl) (hI.fit (Nat.le_of_ble_eq_true rfl) (Nat.le_of_ble_eq_true rfl) (Nat.le_of_ble_eq_true rfl)) dX9_compare_38 (fun mem38 hx38 => ?_)
      obtain ⟨es, f1, f2, f3, f4⟩ := hx38
      refine g_aload_n hC dX9_compare_41 rfl ?_
      refine g_getR hC fdX9_33 (by assumption) (by assumption) dX9_compare_42 ?_
      refine g_VP hC (kX1_size (gl X) (gD X) (gac X) (A 11) (A 12) (A 13) (A 14) es hMo f2) cvX1_size lkX9_109 (by assumption) rfl rfl (Nat.le_of_ble_eq_true rfl) (hI.fit (Nat.le_of_ble_eq_true rfl) (Nat.le_of_ble_eq_true rfl) (Nat.le_of_ble_eq_true rfl)) dX9_compare_45 (fun x45 hx45 => ?_)
      subst hx45
      refine g_iret hC hI rfl dX9_compare_48 (Nat.le_of_ble_eq_true rfl) (Nat.le_of_ble_eq_true rfl) ⟨_, rfl, ?_⟩
      exact Or.inr ⟨y5, y14, es, e5, e14, f1, rfl, WN.of (opM hW9 f2 f4 hMk f3)⟩
set_option maxHeartbeats 4000000 in
set_option maxRecDepth 100000 in
theorem kX9_differ (lc : Launch) (D : va_G) (ac : Nat → ClassId) {sh : Nat → Nat × Nat} {rf : Nat → Nat → Option Nat} {mem : Nat → Nat → Int} (G : Nat → Prop) (x : Nat) (A la l0 l1 l2 sa ra : Nat → Nat) (rp ex ar : List Int) (ms : List (Option MemT)) (ss : List (Option SetT)) (ch : Lns) (ds : Dfs) (lk : Nat) (g y z : Int) (i w : Int) (hW : WXa G sh rf mem x A la l0 l1 l2 sa ra rp ms ss ch ds lk ex ar g y z) (h_p : inR i) (h_q : inR w) : gMet lc D ac mX9_differ 6 [.ref x, .int (iI i), .int (iI w)] 0 0 sh rf mem (pP sh rf mem (fun r => r = tellD ds i w)) := by
  refine gMet.mk (by decide) (by intro v hv; simp at hv; (try rcases hv with rfl | rfl | rfl) <;> rfl) (Nat.le_of_ble_eq_true rfl) (fun X hC hI => ?_)
  show gG X sh rf mem 0 0 0 [some (.ref x), some (.int (iI i)), some (.int (iI w))] []
  have hW9 := hW
  obtain ⟨⟨ho, r0, r1, r2, r3, r4, r5, r6⟩, ⟨hL, hLv⟩, hR, ⟨hCt, hCo, hCi, hCv⟩, ⟨hMo, hMv, hMl, hMk⟩, ⟨hEo, hEv⟩, ⟨hAo, hAv⟩, ⟨hSo, hS0, hS1, hS2, hSg, hSh, hSy⟩, hD, hG⟩ := hW
  have hLo := hL.1
  have hRo := hR.1
  have hTo := hCt.1
  have hMo1 := hMo.1
  have hEo1 := hEo.1
  have hAo1 := hAo.1
  refine g_aload_n hC dX9_differ_0 rfl ?_
  refine g_getR hC fdX9_33 (by assumption) (by assumption) dX9_differ_1 ?_
  refine g_iload_n hC dX9_differ_4 rfl ?_
  refine g_iload_n hC dX9_differ_5 rfl ?_
  refine g_VP hC (kX1_tell (gl X) (gD X) (gac X) (A 11) (A 12) (A 13) (A 14) ds i w hMo hMv h_p h_q) cvX1_tell lkX9_113 (by assumption) rfl rfl (Nat.le_of_ble_eq_true rfl) (hI.fit (Nat.le_of_ble_eq_true rfl) (Nat.le_of_ble_eq_true rfl) (Nat.le_of_ble_eq_true rfl)) dX9_differ_6 (fun x6 hx6 => ?_)
  refine g_iret hC hI rfl dX9_differ_9 (Nat.le_of_ble_eq_true rfl) (Nat.le_of_ble_eq_true rfl) ⟨rfl, rfl, rfl, _, rfl, ?_⟩
  exact hx6
set_option maxHeartbeats 4000000 in
set_option maxRecDepth 100000 in
theorem kX9_ahead (lc : Launch) (D : va_G) (ac : Nat → ClassId) {sh : Nat → Nat × Nat} {rf : Nat → Nat → Option Nat} {mem : Nat → Nat → Int} (G : Nat → Prop) (x : Nat) (A la l0 l1 l2 sa ra : Nat → Nat) (rp ex ar : List Int) (ms : List (Option MemT)) (ss : List (Option SetT)) (ch : Lns) (ds : Dfs) (lk : Nat) (g y z : Int) (n : Int) (hW : WXa G sh rf mem x A la l0 l1 l2 sa ra rp ms ss ch ds lk ex ar g y z) (h_p : inR n) : gMet lc D ac mX9_ahead 6 [.ref x, .int (iI n)] 0 0 sh rf mem (pA (fun r sh1 rf1 mem1 => (¬ (0 ≤ n ∧ n ≤ 9) ∧ r = -4 ∧ WN G sh rf mem sh1 rf1 mem1 x A rp ms ss ch ds lk ex ar g y z) ∨ ((0 ≤ n ∧ n ≤ 9) ∧ r = lk ∧ WN G sh rf mem sh1 rf1 mem1 x A rp ms ss ch ds n.toNat ex ar g y z))) := by
  refine gMet.mk (by decide) (by intro v hv; simp at hv; (try rcases hv with rfl | rfl) <;> rfl) (Nat.le_of_ble_eq_true rfl) (fun X hC hI => ?_)
  show gG X sh rf mem 0 0 0 [some (.ref x), some (.int (iI n))] []
  have hW9 := hW
  obtain ⟨⟨ho, r0, r1, r2, r3, r4, r5, r6⟩, ⟨hL, hLv⟩, hR, ⟨hCt, hCo, hCi, hCv⟩, ⟨hMo, hMv, hMl, hMk⟩, ⟨hEo, hEv⟩, ⟨hAo, hAv⟩, ⟨hSo, hS0, hS1, hS2, hSg, hSh, hSy⟩, hD, hG⟩ := hW
  have hLo := hL.1
  have hRo := hR.1
  have hTo := hCt.1
  have hMo1 := hMo.1
  have hEo1 := hEo.1
  have hAo1 := hAo.1
  have i_p := h_p
  obtain ⟨p1, p2⟩ := h_p
  refine g_iload_n hC dX9_ahead_0 rfl ?_
  refine g_if_lt (tgt := 10) hC dX9_ahead_1 (by decide) ⟨by omega, by omega⟩ (fun h1 => ?_) (fun h1 => ?_)
  · refine g_bipush hC dX9_ahead_10 (by decide +kernel) ?_
    refine g_iret hC hI rfl dX9_ahead_12 (Nat.le_of_ble_eq_true rfl) (Nat.le_of_ble_eq_true rfl) ⟨_, rfl, ?_⟩
    exact Or.inl ⟨by omega, rfl, WN.of ⟨hW9, fun b hb => Un.rf0⟩⟩
  · refine g_iload_n hC dX9_ahead_4 rfl ?_
    refine g_bipush hC dX9_ahead_5 (by decide +kernel) ?_
    refine g_icmp_le (tgt := 13) hC dX9_ahead_7 (by decide) ⟨by omega, by omega⟩ ⟨by omega, by omega⟩ (fun h7 => ?_) (fun h7 => ?_)
    · refine g_aload_n hC dX9_ahead_13 rfl ?_
      refine g_getR hC fdX9_33 (by assumption) (by assumption) dX9_ahead_14 ?_
      refine g_iload_n hC dX9_ahead_17 rfl ?_
      refine g_VM hC (kX1_exchangeLookAhead (gl X) (gD X) (gac X) (A 11) (A 12) (A 13) (A 14) ds n hMo hMv) cvX1_exchangeLookAhead lkX9_116 (by assumption) rfl rfl (Nat.le_of_ble_eq_true rfl) (hI.fit (Nat.le_of_ble_eq_true rfl) (Nat.le_of_ble_eq_true rfl) (Nat.le_of_ble_eq_true rfl)) dX9_ahead_18 (fun x18 mem18 hx18 => ?_)
      refine g_iret hC hI rfl dX9_ahead_21 (Nat.le_of_ble_eq_true rfl) (Nat.le_of_ble_eq_true rfl) ⟨_, rfl, ?_⟩
      right
      obtain ⟨c1, c2⟩ := hx18
      obtain ⟨n1, n2, n3⟩ := hMo.ne
      refine ⟨by omega, by rw [c1]; exact hMl, WN.of (opM hW9 (mem1 := mem18) ⟨?_, hMv.2.1, ?_⟩ ?_ (by omega) (fun b h1 h2 h3 h4 => ?_))⟩
      · rw [c2, gup_k _ _ _ _ (by decide)]; exact hMv.1
      · rw [c2]
        intro i hi
        rw [gup_a _ _ _ _ n1.symm, gup_a _ _ _ _ n2.symm, gup_a _ _ _ _ n3.symm]
        exact hMv.2.2 i hi
      · rw [c2, gup_s]; omega
      · rw [c2]; funext j; rw [gup_a _ _ _ _ h1]
    · refine g_bipush hC dX9_ahead_10 (by decide +kernel) ?_
      refine g_iret hC hI rfl dX9_ahead_12 (Nat.le_of_ble_eq_true rfl) (Nat.le_of_ble_eq_true rfl) ⟨_, rfl, ?_⟩
      exact Or.inl ⟨by omega, rfl, WN.of ⟨hW9, fun b hb => Un.rf0⟩⟩
set_option maxHeartbeats 4000000 in
set_option maxRecDepth 100000 in
theorem kX9_change (lc : Launch) (D : va_G) (ac : Nat → ClassId) {sh : Nat → Nat × Nat} {rf : Nat → Nat → Option Nat} {mem : Nat → Nat → Int} (G : Nat → Prop) (x : Nat) (A la l0 l1 l2 sa ra : Nat → Nat) (rp ex ar : List Int) (ms : List (Option MemT)) (ss : List (Option SetT)) (ch : Lns) (ds : Dfs) (lk : Nat) (g y z : Int) (n c : Int) (hW : WXa G sh rf mem x A la l0 l1 l2 sa ra rp ms ss ch ds lk ex ar g y z) (h_p : inR n) (h_q : inR c) : gMet lc D ac mX9_change 6 [.ref x, .int (iI n), .int (iI c)] 0 0 sh rf mem (pU (fun sh1 rf1 mem1 => ∃ ys, chR ch n c ys ∧ WN G sh rf mem sh1 rf1 mem1 x A rp ms ss ys ds lk ex ar g y z)) := by
  refine gMet.mk (by decide) (by intro v hv; simp at hv; (try rcases hv with rfl | rfl | rfl) <;> rfl) (Nat.le_of_ble_eq_true rfl) (fun X hC hI => ?_)
  show gG X sh rf mem 0 0 0 [some (.ref x), some (.int (iI n)), some (.int (iI c))] []
  have hW9 := hW
  obtain ⟨⟨ho, r0, r1, r2, r3, r4, r5, r6⟩, ⟨hL, hLv⟩, hR, ⟨hCt, hCo, hCi, hCv⟩, ⟨hMo, hMv, hMl, hMk⟩, ⟨hEo, hEv⟩, ⟨hAo, hAv⟩, ⟨hSo, hS0, hS1, hS2, hSg, hSh, hSy⟩, hD, hG⟩ := hW
  have hLo := hL.1
  have hRo := hR.1
  have hTo := hCt.1
  have hMo1 := hMo.1
  have hEo1 := hEo.1
  have hAo1 := hAo.1
  have i_p := h_p
  obtain ⟨p1, p2⟩ := h_p
  have i_q := h_q
  obtain ⟨q1, q2⟩ := h_q
  refine g_iload_n hC dX9_change_0 rfl ?_
  refine g_SP hC (kX9_isLineNumber (gl X) (gD X) (gac X) n i_p) csX9_isLineNumber lkX9_76 rfl rfl (Nat.le_of_ble_eq_true rfl) (hI.fit (Nat.le_of_ble_eq_true rfl) (Nat.le_of_ble_eq_true rfl) (Nat.le_of_ble_eq_true rfl)) dX9_change_1 (fun x1 hx1 => ?_)
  refine g_if_ne (tgt := 8) hC dX9_change_4 (by decide) ⟨by omega, by omega⟩ (fun h4 => ?_) (fun h4 => ?_)
  · refine g_iload_n hC dX9_change_8 rfl ?_
    refine g_if_ne (tgt := 23) hC dX9_change_9 (by decide) ⟨by omega, by omega⟩ (fun h9 => ?_) (fun h9 => ?_)
    · refine g_iload_n hC dX9_change_23 rfl ?_
      refine g_SP hC (kX9_isSign (gl X) (gD X) (gac X) c i_q) csX9_isSign lkX9_79 rfl rfl (Nat.le_of_ble_eq_true rfl) (hI.fit (Nat.le_of_ble_eq_true rfl) (Nat.le_of_ble_eq_true rfl) (Nat.le_of_ble_eq_true rfl)) dX9_change_24 (fun x24 hx24 => ?_)
      refine g_if_eq (tgt := 39) hC dX9_change_27 (by decide) ⟨by omega, by omega⟩ (fun h27 => ?_) (fun h27 => ?_)
      · refine g_vret hC hI rfl dX9_change_39 (Nat.le_of_ble_eq_true rfl) (Nat.le_of_ble_eq_true rfl) ⟨rfl, ?_⟩
        first
        | (obtain ⟨c1, c2, c3⟩ := hx17
           exact ⟨_, ⟨fun w => absurd w (by omega), fun w => absurd w (by omega), fun _ _ => rfl, fun _ w => absurd w (by omega)⟩, WN.of (opC hW9 c1 c2 c3)⟩)
        | (obtain ⟨ys, c0, c1, c2, c3⟩ := hx36
           exact ⟨ys, ⟨fun w => absurd w (by omega), fun w => absurd w (by omega), fun _ w => absurd w (by omega), fun _ _ => c0⟩, WN.of (opC hW9 c1 c2 c3)⟩)
        | exact ⟨ch, ⟨fun _ => rfl, fun _ => rfl, fun _ w => absurd w (by omega), fun _ w => absurd w (by omega)⟩, WN.of ⟨hW9, fun b hb => Un.rf0⟩⟩
      · refine g_aload_n hC dX9_change_30 rfl ?_
        refine g_getR hC fdX9_26 (by assumption) (by assumption) dX9_change_31 ?_
        refine g_iload_n hC dX9_change_34 rfl ?_
        refine g_iload_n hC dX9_change_35 rfl ?_
        refine g_VV hC (kX0_addSign (gl X) (gD X) (gac X) (A 6) (A 7) (A 8) (A 9) (A 10) ch n c hCt hCo hCi hCv (by omega) (by omega)) cvX0_addSign lkX9_124 (by assumption) rfl rfl (Nat.le_of_ble_eq_true rfl) (hI.fit (Nat.le_of_ble_eq_true rfl) (Nat.le_of_ble_eq_true rfl) (Nat.le_of_ble_eq_true rfl)) dX9_change_36 (fun mem36 hx36 => ?_)
        refine g_vret hC hI rfl dX9_change_39 (Nat.le_of_ble_eq_true rfl) (Nat.le_of_ble_eq_true rfl) ⟨rfl, ?_⟩
        first
        | (obtain ⟨c1, c2, c3⟩ := hx17
           exact ⟨_, ⟨fun w => absurd w (by omega), fun w => absurd w (by omega), fun _ _ => rfl, fun _ w => absurd w (by omega)⟩, WN.of (opC hW9 c1 c2 c3)⟩)
        | (obtain ⟨ys, c0, c1, c2, c3⟩ := hx36
           exact ⟨ys, ⟨fun w => absurd w (by omega), fun w => absurd w (by omega), fun _ w => absurd w (by omega), fun _ _ => c0⟩, WN.of (opC hW9 c1 c2 c3)⟩)
        | exact ⟨ch, ⟨fun _ => rfl, fun _ => rfl, fun _ w => absurd w (by omega), fun _ w => absurd w (by omega)⟩, WN.of ⟨hW9, fun b hb => Un.rf0⟩⟩
    · refine g_aload_n hC dX9_change_12 rfl ?_
      refine g_getR hC fdX9_26 (by assumption) (by assumption) dX9_change_13 ?_
      refine g_iload_n hC dX9_change_16 rfl ?_
      refine g_VV hC (kX0_addDeletion (gl X) (gD X) (gac X) (A 6) (A 7) (A 8) (A 9) (A 10) ch n hCt hCo hCi hCv (by omega)) cvX0_addDeletion lkX9_120 (by assumption) rfl rfl (Nat.le_of_ble_eq_true rfl) (hI.fit (Nat.le_of_ble_eq_true rfl) (Nat.le_of_ble_eq_true rfl) (Nat.le_of_ble_eq_true rfl)) dX9_change_17 (fun mem17 hx17 => ?_)
      refine g_goto (tgt := 39) hC dX9_change_20 (by decide) ?_
      refine g_vret hC hI rfl dX9_change_39 (Nat.le_of_ble_eq_true rfl) (Nat.le_of_ble_eq_true rfl) ⟨rfl, ?_⟩
      first
      | (obtain ⟨c1, c2, c3⟩ := hx17
         exact ⟨_, ⟨fun w => absurd w (by omega), fun w => absurd w (by omega), fun _ _ => rfl, fun _ w => absurd w (by omega)⟩, WN.of (opC hW9 c1 c2 c3)⟩)
      | (obtain ⟨ys, c0, c1, c2, c3⟩ := hx36
         exact ⟨ys, ⟨fun w => absurd w (by omega), fun w => absurd w (by omega), fun _ w => absurd w (by omega), fun _ _ => c0⟩, WN.of (opC hW9 c1 c2 c3)⟩)
      | exact ⟨ch, ⟨fun _ => rfl, fun _ => rfl, fun _ w => absurd w (by omega), fun _ w => absurd w (by omega)⟩, WN.of ⟨hW9, fun b hb => Un.rf0⟩⟩
  · refine g_vret hC hI rfl dX9_change_7 (Nat.le_of_ble_eq_true rfl) (Nat.le_of_ble_eq_true rfl) ⟨rfl, ?_⟩
    exact ⟨ch, ⟨fun _ => rfl, fun _ => rfl, fun w => absurd w (by omega), fun w => absurd w (by omega)⟩, WN.of ⟨hW9, fun b hb => Un.rf0⟩⟩
set_option maxHeartbeats 4000000 in
set_option maxRecDepth 100000 in
theorem kX9_update (lc : Launch) (D : va_G) (ac : Nat → ClassId) {sh : Nat → Nat × Nat} {rf : Nat → Nat → Option Nat} {mem : Nat → Nat → Int} (G : Nat → Prop) (x : Nat) (A la l0 l1 l2 sa ra : Nat → Nat) (rp ex ar : List Int) (ms : List (Option MemT)) (ss : List (Option SetT)) (ch : Lns) (ds : Dfs) (lk : Nat) (g y z : Int) (m : Int) (hW : WXa G sh rf mem x A la l0 l1 l2 sa ra rp ms ss ch ds lk ex ar g y z) (h_p : inR m) (hnn : ∀ i, i < ch.length → 1 ≤ nu ch i) : gMet lc D ac mX9_update 6 [.ref x, .int (iI m)] 0 0 sh rf mem (pA (fun r sh1 rf1 mem1 => r = updR ms ch m ∧ WN G sh rf mem sh1 rf1 mem1 x A rp (updS ms ch m) ss (updC ms ch m) ds lk ex ar g y z)) := by
  refine gMet.mk (by decide) (by intro v hv; simp at hv; (try rcases hv with rfl | rfl) <;> rfl) (Nat.le_of_ble_eq_true rfl) (fun X hC hI => ?_)
  show gG X sh rf mem 0 0 0 [some (.ref x), some (.int (iI m)), none, none] []
  have hW9 := hW
  obtain ⟨⟨ho, r0, r1, r2, r3, r4, r5, r6⟩, ⟨hL, hLv⟩, hR, ⟨hCt, hCo, hCi, hCv⟩, ⟨hMo, hMv, hMl, hMk⟩, ⟨hEo, hEv⟩, ⟨hAo, hAv⟩, ⟨hSo, hS0, hS1, hS2, hSg, hSh, hSy⟩, hD, hG⟩ := hW
  have hLo := hL.1
  have hRo := hR.1
  have hTo := hCt.1
  have hMo1 := hMo.1
  have hEo1 := hEo.1
  have hAo1 := hAo.1
  have i_p := h_p
  obtain ⟨p1, p2⟩ := h_p
  have hcl : ch.length ≤ 30 := by
    have u1 := hCi.2.1
    have u2 := hCv.1
    omega
  refine g_aload_n hC dX9_update_0 rfl ?_
  refine g_getR hC fdX9_10 (by assumption) (by assumption) dX9_update_1 ?_
  refine g_iload_n hC dX9_update_4 rfl ?_
  refine g_VR hC (kX3_linesOf (gl X) (gD X) (gac X) (A 0) (A 1) (A 2) (A 3) la l0 l1 l2 rp ms m hL hLv i_p) cvX3_linesOf lkX9_72 (by assumption) rfl rfl (Nat.le_of_ble_eq_true rfl) (hI.fit (Nat.le_of_ble_eq_true rfl) (Nat.le_of_ble_eq_true rfl) (Nat.le_of_ble_eq_true rfl)) dX9_update_5 (fun x5 hx5 => ?_)
  rcases e5 : memAt ms (m) with _ | y5
  · rw [e5] at hx5
    subst hx5
    refine g_astore_nN hC 2 rfl dX9_update_8 (Nat.le_of_ble_eq_true rfl) ?_
    dsimp only [List.set]
    refine g_aload_nN hC dX9_update_9 rfl ?_
    refine g_ifnonnullN hC dX9_update_10 ?_
    refine g_bipush hC dX9_update_13 (by decide +kernel) ?_
    refine g_iret hC hI rfl dX9_update_15 (Nat.le_of_ble_eq_true rfl) (Nat.le_of_ble_eq_true rfl) ⟨_, rfl, ?_⟩
    rw [show updR ms ch m = -100 by rw [updR, e5], show updS ms ch m = ms by rw [updS, e5], show updC ms ch m = ch by rw [updC, e5]]
    exact ⟨rfl, WN.of ⟨hW9, fun b hb => Un.rf0⟩⟩
  · rw [e5] at hx5
    subst hx5
    obtain ⟨O5, I5, V5⟩ := LbV.at hLv e5
    have o5 := O5.1
    refine g_astore_n hC 2 rfl dX9_update_8 (Nat.le_of_ble_eq_true rfl) ?_
    dsimp only [List.set]
    refine g_aload_n hC dX9_update_9 rfl ?_
    refine g_ifnonnullR (tgt := 16) hC dX9_update_10 (by decide) ?_
    refine g_aload_n hC dX9_update_16 rfl ?_
    refine g_getR hC fdX9_26 (by assumption) (by assumption) dX9_update_17 ?_
    refine g_aload_n hC dX9_update_20 rfl ?_
    refine g_VP hC (kX0_refusingChange (gl X) (gD X) (gac X) (A 6) (A 7) (A 8) (A 9) (A 10) ch _ _ _ _ y5.2.2 hCt hCo hCi hCv O5 I5 V5) cvX0_refusingChange lkX9_127 (by assumption) rfl rfl (Nat.le_of_ble_eq_true rfl) (hI.fit (Nat.le_of_ble_eq_true rfl) (Nat.le_of_ble_eq_true rfl) (Nat.le_of_ble_eq_true rfl)) dX9_update_21 (fun x21 hx21 => ?_)
    subst hx21
    have rle := rfS_le y5.2.2 ch 0 y5.2.2.length 0 (by omega)
    refine g_istore_n hC 3 rfl dX9_update_24 (Nat.le_of_ble_eq_true rfl) ?_
    dsimp only [List.set]
    refine g_iload_n hC dX9_update_25 rfl ?_
    refine g_if_ne (tgt := 37) hC dX9_update_26 (by decide) ⟨by omega, by omega⟩ (fun h26 => ?_) (fun h26 => ?_)
    · first | (have hW3 := hW2; have hK3 := hK2) | (have hW3 := hW9; have hK3 : ∀ b, G b → Un sh rf mem sh rf mem b := fun b _ => Un.rf0)
      refine g_aload_n hC dX9_update_37 rfl ?_
      refine g_getR hC fdX9_26 (by assumption) (by assumption) dX9_update_38 ?_
      refine g_VV hC (kX0_clear (gl X) (gD X) (gac X) (A 6) (A 7) (A 8) (A 9) (A 10) ch hW3.2.2.2.1.1 hW3.2.2.2.1.2.1 hW3.2.2.2.1.2.2.1 hW3.2.2.2.1.2.2.2) cvX0_clear lkX9_135 (by assumption) rfl rfl (Nat.le_of_ble_eq_true rfl) (hI.fit (Nat.le_of_ble_eq_true rfl) (Nat.le_of_ble_eq_true rfl) (Nat.le_of_ble_eq_true rfl)) dX9_update_41 (fun mem41 hx41 => ?_)
      obtain ⟨hW4, hK4⟩ := opC hW3 hx41.1 hx41.2.1 hx41.2.2
      refine g_iload_n hC dX9_update_44 rfl ?_
      refine g_if_ne (tgt := 55) hC dX9_update_45 (by decide) ⟨by omega, by omega⟩ (fun h45 => ?_) (fun h45 => ?_)
      · refine g_iload_n hC dX9_update_55 rfl ?_
        refine g_ineg hC dX9_update_56 ?_
        refine g_iret hC hI rfl dX9_update_57 (Nat.le_of_ble_eq_true rfl) (Nat.le_of_ble_eq_true rfl) ⟨_, rfl, ?_⟩
        have u3 : updC ms ch m = [] := by rw [updC, e5]
        rw [u3]
        first
        | (exfalso; omega)
        | (have q0 : rfS y5.2.2 ch 0 y5.2.2.length 0 = 0 := by omega
           have u1 : updR ms ch m = (upS y5.2.2 ch).length := by rw [updR, e5]; exact if_pos q0
           have u2 : updS ms ch m = ms.set (m - 1).toNat (some (y5.1, y5.2.1, upS y5.2.2 ch)) := by rw [updS, e5]; exact if_pos q0
           rw [u1, u2]
           have u4 := (LbV.at hW4.2.1.2 (memAt_set e5)).2.2.1
           refine ⟨?_, WN.of2 hK3 ⟨hW4, hK4⟩⟩
           rw [hx49]
           exact u4)
        | (have q0 : rfS y5.2.2 ch 0 y5.2.2.length 0 ≠ 0 := by omega
           have u1 : updR ms ch m = -rfS y5.2.2 ch 0 y5.2.2.length 0 := by rw [updR, e5]; exact if_neg q0
           have u2 : updS ms ch m = ms := by rw [updS, e5]; exact if_neg q0
           rw [u1, u2]
           exact ⟨rfl, WN.of2 hK3 ⟨hW4, hK4⟩⟩)
      · refine g_aload_n hC dX9_update_48 rfl ?_
        refine g_VP hC (kX4_size (gl X) (gD X) (gac X) _ _ _ _ O5) cvX4_size lkX9_138 (by assumption) rfl rfl (Nat.le_of_ble_eq_true rfl) (hI.fit (Nat.le_of_ble_eq_true rfl) (Nat.le_of_ble_eq_true rfl) (Nat.le_of_ble_eq_true rfl)) dX9_update_49 (fun x49 hx49 => ?_)
        refine g_goto (tgt := 57) hC dX9_update_52 (by decide) ?_
        refine g_iret hC hI rfl dX9_update_57 (Nat.le_of_ble_eq_true rfl) (Nat.le_of_ble_eq_true rfl) ⟨_, rfl, ?_⟩
        have u3 : updC ms ch m = [] := by rw [updC, e5]
        rw [u3]
        first
        | (exfalso; omega)
        | (have q0 : rfS y5.2.2 ch 0 y5.2.2.length 0 = 0 := by omega
           have u1 : updR ms ch m = (upS y5.2.2 ch).length := by rw [updR, e5]; exact if_pos q0
           have u2 : updS ms ch m = ms.set (m - 1).toNat (some (y5.1, y5.2.1, upS y5.2.2 ch)) := by rw [updS, e5]; exact if_pos q0
           rw [u1, u2]
           have u4 := (LbV.at hW4.2.1.2 (memAt_set e5)).2.2.1
           refine ⟨?_, WN.of2 hK3 ⟨hW4, hK4⟩⟩
           rw [hx49]
           exact u4)
        | (have q0 : rfS y5.2.2 ch 0 y5.2.2.length 0 ≠ 0 := by omega
           have u1 : updR ms ch m = -rfS y5.2.2 ch 0 y5.2.2.length 0 := by rw [updR, e5]; exact if_neg q0
           have u2 : updS ms ch m = ms := by rw [updS, e5]; exact if_neg q0
           rw [u1, u2]
           exact ⟨rfl, WN.of2 hK3 ⟨hW4, hK4⟩⟩)
    · refine g_aload_n hC dX9_update_29 rfl ?_
      refine g_getR hC fdX9_26 (by assumption) (by assumption) dX9_update_30 ?_
      refine g_aload_n hC dX9_update_33 rfl ?_
      refine g_VV hC (kX0_applyTo (gl X) (gD X) (gac X) (A 6) (A 7) (A 8) (A 9) (A 10) ch _ _ _ _ y5.2.2 hCt hCo hCi hCv O5 I5 V5 hnn (hD.1 _ (by rw [(memAt_some e5).2.2]; simp))) cvX0_applyTo lkX9_131 (by assumption) rfl rfl (Nat.le_of_ble_eq_true rfl) (hI.fit (Nat.le_of_ble_eq_true rfl) (Nat.le_of_ble_eq_true rfl) (Nat.le_of_ble_eq_true rfl)) dX9_update_34 (fun mem34 hx34 => ?_)
      have K := LbN.set hL hLv (memAt_some e5).2.2 hx34.1 hx34.2.1 hx34.2.2
      obtain ⟨hW2, hK2⟩ := opL hW9 K.1 K.2.1 K.2.2.1 K.2.2.2
      first | (have hW3 := hW2; have hK3 := hK2) | (have hW3 := hW9; have hK3 : ∀ b, G b → Un sh rf mem sh rf mem b := fun b _ => Un.rf0)
      refine g_aload_n hC dX9_update_37 rfl ?_
      refine g_getR hC fdX9_26 (by assumption) (by assumption) dX9_update_38 ?_
      refine g_VV hC (kX0_clear (gl X) (gD X) (gac X) (A 6) (A 7) (A 8) (A 9) (A 10) ch hW3.2.2.2.1.1 hW3.2.2.2.1.2.1 hW3.2.2.2.1.2.2.1 hW3.2.2.2.1.2.2.2) cvX0_clear lkX9_135 (by assumption) rfl rfl (Nat.le_of_ble_eq_true rfl) (hI.fit (Nat.le_of_ble_eq_true rfl) (Nat.le_of_ble_eq_true rfl) (Nat.le_of_ble_eq_true rfl)) dX9_update_41 (fun mem41 hx41 => ?_)
      obtain ⟨hW4, hK4⟩ := opC hW3 hx41.1 hx41.2.1 hx41.2.2
      refine g_iload_n hC dX9_update_44 rfl ?_
      refine g_if_ne (tgt := 55) hC dX9_update_45 (by decide) ⟨by omega, by omega⟩ (fun h45 => ?_) (fun h45 => ?_)
      · refine g_iload_n hC dX9_update_55 rfl ?_
        refine g_ineg hC dX9_update_56 ?_
        refine g_iret hC hI rfl dX9_update_57 (Nat.le_of_ble_eq_true rfl) (Nat.le_of_ble_eq_true rfl) ⟨_, rfl, ?_⟩
        have u3 : updC ms ch m = [] := by rw [updC, e5]
        rw [u3]
        first
        | (exfalso; omega)
        | (have q0 : rfS y5.2.2 ch 0 y5.2.2.length 0 = 0 := by omega
           have u1 : updR ms ch m = (upS y5.2.2 ch).length := by rw [updR, e5]; exact if_pos q0
           have u2 : updS ms ch m = ms.set (m - 1).toNat (some (y5.1, y5.2.1, upS y5.2.2 ch)) := by rw [updS, e5]; exact if_pos q0
           rw [u1, u2]
           have u4 := (LbV.at hW4.2.1.2 (memAt_set e5)).2.2.1
           refine ⟨?_, WN.of2 hK3 ⟨hW4, hK4⟩⟩
           rw [hx49]
           exact u4)
        | (have q0 : rfS y5.2.2 ch 0 y5.2.2.length 0 ≠ 0 := by omega
           have u1 : updR ms ch m = -rfS y5.2.2 ch 0 y5.2.2.length 0 := by rw [updR, e5]; exact if_neg q0
           have u2 : updS ms ch m = ms := by rw [updS, e5]; exact if_neg q0
           rw [u1, u2]
           exact ⟨rfl, WN.of2 hK3 ⟨hW4, hK4⟩⟩)
      · refine g_aload_n hC dX9_update_48 rfl ?_
        refine g_VP hC (kX4_size (gl X) (gD X) (gac X) _ _ _ _ O5) cvX4_size lkX9_138 (by assumption) rfl rfl (Nat.le_of_ble_eq_true rfl) (hI.fit (Nat.le_of_ble_eq_true rfl) (Nat.le_of_ble_eq_true rfl) (Nat.le_of_ble_eq_true rfl)) dX9_update_49 (fun x49 hx49 => ?_)
        refine g_goto (tgt := 57) hC dX9_update_52 (by decide) ?_
        refine g_iret hC hI rfl dX9_update_57 (Nat.le_of_ble_eq_true rfl) (Nat.le_of_ble_eq_true rfl) ⟨_, rfl, ?_⟩
        have u3 : updC ms ch m = [] := by rw [updC, e5]
        rw [u3]
        first
        | (exfalso; omega)
        | (have q0 : rfS y5.2.2 ch 0 y5.2.2.length 0 = 0 := by omega
           have u1 : updR ms ch m = (upS y5.2.2 ch).length := by rw [updR, e5]; exact if_pos q0
           have u2 : updS ms ch m = ms.set (m - 1).toNat (some (y5.1, y5.2.1, upS y5.2.2 ch)) := by rw [updS, e5]; exact if_pos q0
           rw [u1, u2]
           have u4 := (LbV.at hW4.2.1.2 (memAt_set e5)).2.2.1
           refine ⟨?_, WN.of2 hK3 ⟨hW4, hK4⟩⟩
           rw [hx49]
           exact u4)
        | (have q0 : rfS y5.2.2 ch 0 y5.2.2.length 0 ≠ 0 := by omega
           have u1 : updR ms ch m = -rfS y5.2.2 ch 0 y5.2.2.length 0 := by rw [updR, e5]; exact if_neg q0
           have u2 : updS ms ch m = ms := by rw [updS, e5]; exact if_neg q0
           rw [u1, u2]
           exact ⟨rfl, WN.of2 hK3 ⟨hW4, hK4⟩⟩)
set_option maxHeartbeats 4000000 in
set_option maxRecDepth 100000 in
theorem kX9_define (lc : Launch) (D : va_G) (ac : Nat → ClassId) {sh : Nat → Nat × Nat} {rf : Nat → Nat → Option Nat} {mem : Nat → Nat → Int} (G : Nat → Prop) (x : Nat) (A la l0 l1 l2 sa ra : Nat → Nat) (rp ex ar : List Int) (ms : List (Option MemT)) (ss : List (Option SetT)) (ch : Lns) (ds : Dfs) (lk : Nat) (g y z : Int) (n v : Int) (hW : WXa G sh rf mem x A la l0 l1 l2 sa ra rp ms ss ch ds lk ex ar g y z) (h_p : inR n) (hv : v = 0 ∨ v = 1) : gMet lc D ac mX9_define 6 [.ref x, .int (iI n), .int (iI v)] 2 65 sh rf mem (pA (fun r sh1 rf1 mem1 => r = defR ss n ∧ WN G sh rf mem sh1 rf1 mem1 x A rp ms (defS ss n v) ch ds lk ex ar g y z)) := by
  refine gMet.mk (by decide) (by intro v hv; simp at hv; (try rcases hv with rfl | rfl | rfl) <;> rfl) (Nat.le_of_ble_eq_true rfl) (fun X hC hI => ?_)
  show gG X sh rf mem 0 0 0 [some (.ref x), some (.int (iI n)), some (.int (iI v))] []
  have hW9 := hW
  obtain ⟨⟨ho, r0, r1, r2, r3, r4, r5, r6⟩, ⟨hL, hLv⟩, hR, ⟨hCt, hCo, hCi, hCv⟩, ⟨hMo, hMv, hMl, hMk⟩, ⟨hEo, hEv⟩, ⟨hAo, hAv⟩, ⟨hSo, hS0, hS1, hS2, hSg, hSh, hSy⟩, hD, hG⟩ := hW
  have hLo := hL.1
  have hRo := hR.1
  have hTo := hCt.1
  have hMo1 := hMo.1
  have hEo1 := hEo.1
  have hAo1 := hAo.1
  have i_p := h_p
  obtain ⟨p1, p2⟩ := h_p
  have le1 := numS_le n ss
  have le2 := hR.2.2.2.2.1
  refine g_iload_n hC dX9_define_0 rfl ?_
  refine g_SP hC (kX9_isName (gl X) (gD X) (gac X) n i_p) csX9_isName lkX9_62 rfl rfl (Nat.le_of_ble_eq_true rfl) (hI.fit (Nat.le_of_ble_eq_true rfl) (Nat.le_of_ble_eq_true rfl) (Nat.le_of_ble_eq_true rfl)) dX9_define_1 (fun x1 hx1 => ?_)
  refine g_if_ne (tgt := 10) hC dX9_define_4 (by decide) ⟨by omega, by omega⟩ (fun h4 => ?_) (fun h4 => ?_)
  · refine g_aload_n hC dX9_define_10 rfl ?_
    refine g_getR hC fdX9_19 (by assumption) (by assumption) dX9_define_11 ?_
    refine g_iload_n hC dX9_define_14 rfl ?_
    refine g_VR hC (kX7_withName (gl X) (gD X) (gac X) (A 4) (A 5) sa ra ss n hR i_p) cvX7_withName lkX9_139 (by assumption) rfl rfl (Nat.le_of_ble_eq_true rfl) (hI.fit (Nat.le_of_ble_eq_true rfl) (Nat.le_of_ble_eq_true rfl) (Nat.le_of_ble_eq_true rfl)) dX9_define_15 (fun x15 hx15 => ?_)
    rcases e15 : setAt ss (numS ss n) with _ | y15
    · rw [e15] at hx15
      subst hx15
      refine g_ifnullN (tgt := 24) hC dX9_define_18 (by decide) ?_
      refine g_aload_n hC dX9_define_24 rfl ?_
      refine g_getR hC fdX9_19 (by assumption) (by assumption) dX9_define_25 ?_
      refine g_iload_n hC dX9_define_28 rfl ?_
      refine g_iload_n hC dX9_define_29 rfl ?_
      refine g_VA hC (kX7_add (gl X) (gD X) (gac X) (A 4) (A 5) sa ra ss n v hR (by omega) hv) cvX7_add lkX9_143 (by assumption) rfl rfl (Nat.le_of_ble_eq_true rfl) (hI.fit (Nat.le_of_ble_eq_true rfl) (Nat.le_of_ble_eq_true rfl) (Nat.le_of_ble_eq_true rfl)) dX9_define_30 (fun x30 sh30 rf30 mem30 hx30 => ?_)
      refine g_iret hC hI rfl dX9_define_33 (Nat.le_of_ble_eq_true rfl) (Nat.le_of_ble_eq_true rfl) ⟨_, rfl, ?_⟩
      have q0 : numS ss n = 0 := by
        apply Classical.byContradiction
        intro w
        obtain ⟨u, u1, -⟩ := setAt_num w
        rw [e15] at u1
        simp at u1
      rcases hx30 with ⟨h1, rfl, rfl, rfl, rfl⟩ | ⟨h1, rfl, s0, r0, f1, f2, f3, f4⟩
      · rw [defR, if_neg (by omega), if_neg (by omega), if_neg (by omega), defS, if_neg (by omega)]
        exact ⟨rfl, WN.of ⟨hW9, fun b hb => Un.rf0⟩⟩
      · rw [defR, if_neg (by omega), if_neg (by omega), if_pos h1, defS, if_pos (by omega)]
        refine ⟨rfl, WN.of (opR hW9 f3 f4 (fun i hi => ?_))⟩
        rw [getD_appS] at hi
        by_cases e : i = ss.length
        · rw [e, va_up_self]; exact Or.inr f2
        · rw [if_neg e] at hi
          rw [va_up_ne _ _ e]; exact Or.inl ⟨i, hi, rfl⟩
    · rw [e15] at hx15
      subst hx15
      obtain ⟨O15, V15⟩ := RSs.at hR e15
      have o15 := O15.1
      refine g_ifnullR hC dX9_define_18 ?_
      refine g_bipush hC dX9_define_21 (by decide +kernel) ?_
      refine g_iret hC hI rfl dX9_define_23 (Nat.le_of_ble_eq_true rfl) (Nat.le_of_ble_eq_true rfl) ⟨_, rfl, ?_⟩
      have q0 := (setAt_some e15).1
      rw [defR, if_neg (by omega), if_pos (by omega), defS, if_neg (by omega)]
      exact ⟨rfl, WN.of ⟨hW9, fun b hb => Un.rf0⟩⟩
  · refine g_bipush hC dX9_define_7 (by decide +kernel) ?_
    refine g_iret hC hI rfl dX9_define_9 (Nat.le_of_ble_eq_true rfl) (Nat.le_of_ble_eq_true rfl) ⟨_, rfl, ?_⟩
    rw [defR, if_pos (by omega), defS, if_neg (by omega)]
    exact ⟨rfl, WN.of ⟨hW9, fun b hb => Un.rf0⟩⟩
set_option maxHeartbeats 4000000 in
set_option maxRecDepth 100000 in
theorem kX9_record (lc : Launch) (D : va_G) (ac : Nat → ClassId) {sh : Nat → Nat × Nat} {rf : Nat → Nat → Option Nat} {mem : Nat → Nat → Int} (G : Nat → Prop) (x : Nat) (A la l0 l1 l2 sa ra : Nat → Nat) (rp ex ar : List Int) (ms : List (Option MemT)) (ss : List (Option SetT)) (ch : Lns) (ds : Dfs) (lk : Nat) (g y z : Int) (s v : Int) (hW : WXa G sh rf mem x A la l0 l1 l2 sa ra rp ms ss ch ds lk ex ar g y z) (h_p : inR s) : gMet lc D ac mX9_record 6 [.ref x, .int (iI s), .int (iI v)] 0 0 sh rf mem (pA (fun r sh1 rf1 mem1 => r = recR ss s ∧ WN G sh rf mem sh1 rf1 mem1 x A rp ms (recS ss s v) ch ds lk ex ar g y z)) := by
  refine gMet.mk (by decide) (by intro v hv; simp at hv; (try rcases hv with rfl | rfl | rfl) <;> rfl) (Nat.le_of_ble_eq_true rfl) (fun X hC hI => ?_)
  show gG X sh rf mem 0 0 0 [some (.ref x), some (.int (iI s)), some (.int (iI v)), none] []
  have hW9 := hW
  obtain ⟨⟨ho, r0, r1, r2, r3, r4, r5, r6⟩, ⟨hL, hLv⟩, hR, ⟨hCt, hCo, hCi, hCv⟩, ⟨hMo, hMv, hMl, hMk⟩, ⟨hEo, hEv⟩, ⟨hAo, hAv⟩, ⟨hSo, hS0, hS1, hS2, hSg, hSh, hSy⟩, hD, hG⟩ := hW
  have hLo := hL.1
  have hRo := hR.1
  have hTo := hCt.1
  have hMo1 := hMo.1
  have hEo1 := hEo.1
  have hAo1 := hAo.1
  have i_p := h_p
  obtain ⟨p1, p2⟩ := h_p
  refine g_aload_n hC dX9_record_0 rfl ?_
  refine g_getR hC fdX9_19 (by assumption) (by assumption) dX9_record_1 ?_
  refine g_iload_n hC dX9_record_4 rfl ?_
  refine g_VR hC (kX7_at (gl X) (gD X) (gac X) (A 4) (A 5) sa ra ss s hR i_p) cvX7_at lkX9_147 (by assumption) rfl rfl (Nat.le_of_ble_eq_true rfl) (hI.fit (Nat.le_of_ble_eq_true rfl) (Nat.le_of_ble_eq_true rfl) (Nat.le_of_ble_eq_true rfl)) dX9_record_5 (fun x5 hx5 => ?_)
  rcases e5 : setAt ss (s) with _ | y5
  · rw [e5] at hx5
    subst hx5
    refine g_astore_nN hC 3 rfl dX9_record_8 (Nat.le_of_ble_eq_true rfl) ?_
    dsimp only [List.set]
    refine g_aload_nN hC dX9_record_9 rfl ?_
    refine g_ifnonnullN hC dX9_record_10 ?_
    refine g_bipush hC dX9_record_13 (by decide +kernel) ?_
    refine g_goto (tgt := 23) hC dX9_record_15 (by decide) ?_
    refine g_iret hC hI rfl dX9_record_23 (Nat.le_of_ble_eq_true rfl) (Nat.le_of_ble_eq_true rfl) ⟨_, rfl, ?_⟩
    first
    | (have u1 : recR ss s = -2 := by rw [recR, e5]
       have u2 : recS ss s v = ss := by rw [recS, e5]
       rw [u1, u2]
       exact ⟨rfl, WN.of ⟨hW9, fun b hb => Un.rf0⟩⟩)
    | (rcases hx20 with ⟨h1, rfl, rfl⟩ | ⟨h1, rfl, h3, h4⟩
       · have u1 : recR ss s = -1 := by rw [recR, e5]; exact if_neg (by omega)
         have u2 : recS ss s v = ss := by rw [recS, e5]; exact if_neg (by omega)
         rw [u1, u2]
         exact ⟨rfl, WN.of ⟨hW9, fun b hb => Un.rf0⟩⟩
       · have u1 : recR ss s = y5.2.2.1.length + 1 := by rw [recR, e5]; exact if_pos h1
         have u2 : recS ss s v = ss.set (s - 1).toNat (some (y5.1, y5.2.1, y5.2.2.1 ++ [v], y5.2.2.2)) := by rw [recS, e5]; exact if_pos h1
         rw [u1, u2]
         have u3 := V5.2.2.2.2.2.1
         obtain ⟨k1, k2⟩ := RSs_set hR (y := (y5.1, y5.2.1, y5.2.2.1 ++ [v], y5.2.2.2)) (setAt_some e5).2.2 (h3.v (by simp; omega)) h4
         exact ⟨rfl, WN.of (opR hW9 k1 k2 (fun i hi => Or.inl ⟨i, (by rw [getD_setS (getD_lt (by rw [(setAt_some e5).2.2]; simp))] at hi; by_cases w : i = (s - 1).toNat; (rw [w, (setAt_some e5).2.2]; simp); (rw [if_neg w] at hi; exact hi)), rfl⟩))⟩)
  · rw [e5] at hx5
    subst hx5
    obtain ⟨O5, V5⟩ := RSs.at hR e5
    have o5 := O5.1
    refine g_astore_n hC 3 rfl dX9_record_8 (Nat.le_of_ble_eq_true rfl) ?_
    dsimp only [List.set]
    refine g_aload_n hC dX9_record_9 rfl ?_
    refine g_ifnonnullR (tgt := 18) hC dX9_record_10 (by decide) ?_
    refine g_aload_n hC dX9_record_18 rfl ?_
    refine g_iload_n hC dX9_record_19 rfl ?_
    refine g_VM hC (kX6_add (gl X) (gD X) (gac X) _ _ y5.1 y5.2.1 y5.2.2.1 y5.2.2.2 v O5 V5.w) cvX6_add lkX9_150 (by assumption) rfl rfl (Nat.le_of_ble_eq_true rfl) (hI.fit (Nat.le_of_ble_eq_true rfl) (Nat.le_of_ble_eq_true rfl) (Nat.le_of_ble_eq_true rfl)) dX9_record_20 (fun x20 mem20 hx20 => ?_)
    refine g_iret hC hI rfl dX9_record_23 (Nat.le_of_ble_eq_true rfl) (Nat.le_of_ble_eq_true rfl) ⟨_, rfl, ?_⟩
    first
    | (have u1 : recR ss s = -2 := by rw [recR, e5]
       have u2 : recS ss s v = ss := by rw [recS, e5]
       rw [u1, u2]
       exact ⟨rfl, WN.of ⟨hW9, fun b hb => Un.rf0⟩⟩)
    | (rcases hx20 with ⟨h1, rfl, rfl⟩ | ⟨h1, rfl, h3, h4⟩
       · have u1 : recR ss s = -1 := by rw [recR, e5]; exact if_neg (by omega)
         have u2 : recS ss s v = ss := by rw [recS, e5]; exact if_neg (by omega)
         rw [u1, u2]
         exact ⟨rfl, WN.of ⟨hW9, fun b hb => Un.rf0⟩⟩
       · have u1 : recR ss s = y5.2.2.1.length + 1 := by rw [recR, e5]; exact if_pos h1
         have u2 : recS ss s v = ss.set (s - 1).toNat (some (y5.1, y5.2.1, y5.2.2.1 ++ [v], y5.2.2.2)) := by rw [recS, e5]; exact if_pos h1
         rw [u1, u2]
         have u3 := V5.2.2.2.2.2.1
         obtain ⟨k1, k2⟩ := RSs_set hR (y := (y5.1, y5.2.1, y5.2.2.1 ++ [v], y5.2.2.2)) (setAt_some e5).2.2 (h3.v (by simp; omega)) h4
         exact ⟨rfl, WN.of (opR hW9 k1 k2 (fun i hi => Or.inl ⟨i, (by rw [getD_setS (getD_lt (by rw [(setAt_some e5).2.2]; simp))] at hi; by_cases w : i = (s - 1).toNat; (rw [w, (setAt_some e5).2.2]; simp); (rw [if_neg w] at hi; exact hi)), rfl⟩))⟩)
set_option maxHeartbeats 4000000 in
set_option maxRecDepth 100000 in
theorem kX9_delete (lc : Launch) (D : va_G) (ac : Nat → ClassId) {sh : Nat → Nat × Nat} {rf : Nat → Nat → Option Nat} {mem : Nat → Nat → Int} (G : Nat → Prop) (x : Nat) (A la l0 l1 l2 sa ra : Nat → Nat) (rp ex ar : List Int) (ms : List (Option MemT)) (ss : List (Option SetT)) (ch : Lns) (ds : Dfs) (lk : Nat) (g y z : Int) (n : Int) (hW : WXa G sh rf mem x A la l0 l1 l2 sa ra rp ms ss ch ds lk ex ar g y z) (h_p : inR n) : gMet lc D ac mX9_delete 6 [.ref x, .int (iI n)] 0 0 sh rf mem (pA (fun r sh1 rf1 mem1 => r = delC ss n ∧ WN G sh rf mem sh1 rf1 mem1 x A rp ms (delS ss n y) ch ds lk ex ar (stG g (delC ss n)) y (stZ y z (delC ss n)))) := by
  refine gMet.mk (by decide) (by intro v hv; simp at hv; (try rcases hv with rfl | rfl) <;> rfl) (Nat.le_of_ble_eq_true rfl) (fun X hC hI => ?_)
  show gG X sh rf mem 0 0 0 [some (.ref x), some (.int (iI n)), none] []
  have hW9 := hW
  obtain ⟨⟨ho, r0, r1, r2, r3, r4, r5, r6⟩, ⟨hL, hLv⟩, hR, ⟨hCt, hCo, hCi, hCv⟩, ⟨hMo, hMv, hMl, hMk⟩, ⟨hEo, hEv⟩, ⟨hAo, hAv⟩, ⟨hSo, hS0, hS1, hS2, hSg, hSh, hSy⟩, hD, hG⟩ := hW
  have hLo := hL.1
  have hRo := hR.1
  have hTo := hCt.1
  have hMo1 := hMo.1
  have hEo1 := hEo.1
  have hAo1 := hAo.1
  have i_p := h_p
  obtain ⟨p1, p2⟩ := h_p
  have cle : -100 ≤ delC ss n ∧ delC ss n ≤ 12 := by
    unfold delC
    split
    · omega
    · split <;> omega
  refine g_aload_n hC dX9_delete_0 rfl ?_
  refine g_getR hC fdX9_19 (by assumption) (by assumption) dX9_delete_1 ?_
  refine g_iload_n hC dX9_delete_4 rfl ?_
  refine g_VP hC (kX7_deleteCode (gl X) (gD X) (gac X) (A 4) (A 5) sa ra ss n hR i_p) cvX7_deleteCode lkX9_154 (by assumption) rfl rfl (Nat.le_of_ble_eq_true rfl) (hI.fit (Nat.le_of_ble_eq_true rfl) (Nat.le_of_ble_eq_true rfl) (Nat.le_of_ble_eq_true rfl)) dX9_delete_5 (fun x5 hx5 => ?_)
  obtain rfl : x5 = delC ss n := hx5
  refine g_istore_n hC 2 rfl dX9_delete_8 (Nat.le_of_ble_eq_true rfl) ?_
  dsimp only [List.set]
  refine g_aload_n hC dX9_delete_9 rfl ?_
  refine g_getR hC fdX9_50 (by assumption) (by assumption) dX9_delete_10 ?_
  refine g_iload_n hC dX9_delete_13 rfl ?_
  refine g_VM hC (kX8_carriesOut (gl X) (gD X) (gac X) (A 19) _ hSo ⟨by omega, by omega, by omega⟩ ⟨by omega, by omega⟩) cvX8_carriesOut lkX9_92 (by assumption) rfl rfl (Nat.le_of_ble_eq_true rfl) (hI.fit (Nat.le_of_ble_eq_true rfl) (Nat.le_of_ble_eq_true rfl) (Nat.le_of_ble_eq_true rfl)) dX9_delete_14 (fun x14 mem14 hx14 => ?_)
  obtain ⟨⟨hW2, hK2⟩, hr14⟩ := opStep hW9 cle.2 hx14
  have hR2 := hW2.2.2.1
  refine g_if_eq (tgt := 28) hC dX9_delete_17 (by decide) ⟨by omega, by omega⟩ (fun h17 => ?_) (fun h17 => ?_)
  · refine g_iload_n hC dX9_delete_28 rfl ?_
    refine g_iret hC hI rfl dX9_delete_29 (Nat.le_of_ble_eq_true rfl) (Nat.le_of_ble_eq_true rfl) ⟨_, rfl, ?_⟩
    first
    | (obtain ⟨c0, u, e5⟩ := delC_0 q20.2.2
       obtain ⟨w1, w2, w3⟩ := setAt_some e5
       obtain ⟨f1, f2, f3⟩ := hx25
       subst f1 f2
       rw [if_pos ⟨w1, w2⟩] at f3
       subst f3
       rw [show delS ss n y = ss.set (n - 1).toNat none from if_pos ⟨q20.2.1, c0⟩]
       obtain ⟨k1, k2⟩ := RSs_drop hR2 (k := (n - 1).toNat) (by omega)
       refine ⟨rfl, WN.of2 hK2 (opR hW2 k1 k2 (fun i hi => Or.inl ⟨i, ?_, rfl⟩))⟩
       rw [getD_setS (by omega)] at hi
       by_cases w : i = (n - 1).toNat
       · rw [if_pos w] at hi; exact absurd rfl hi
       · rw [if_neg w] at hi; exact hi)
    | (rw [show delS ss n y = ss from if_neg (by
         rintro ⟨w1, w2⟩
         rcases hr14 with ⟨u1, u2⟩ | ⟨u1, u2⟩
         · omega
         · exact u2 ⟨by omega, w1, Or.inl w2⟩)]
       exact ⟨rfl, WN.of ⟨hW2, hK2⟩⟩)
  · have q20 : dz y (delC ss n) := by
      rcases hr14 with ⟨-, w⟩ | ⟨w, -⟩
      · exact w
      · omega
    refine g_aload_n hC dX9_delete_20 rfl ?_
    refine g_getR hC fdX9_19 (by assumption) (by assumption) dX9_delete_21 ?_
    refine g_iload_n hC dX9_delete_24 rfl ?_
    refine g_VU hC (kX7_drop (gl X) (gD X) (gac X) (A 4) (A 5) sa ra ss n hR2 i_p) cvX7_drop lkX9_157 (by assumption) rfl rfl (Nat.le_of_ble_eq_true rfl) (hI.fit (Nat.le_of_ble_eq_true rfl) (Nat.le_of_ble_eq_true rfl) (Nat.le_of_ble_eq_true rfl)) dX9_delete_25 (fun sh25 rf25 mem25 hx25 => ?_)
    refine g_iload_n hC dX9_delete_28 rfl ?_
    refine g_iret hC hI rfl dX9_delete_29 (Nat.le_of_ble_eq_true rfl) (Nat.le_of_ble_eq_true rfl) ⟨_, rfl, ?_⟩
    first
    | (obtain ⟨c0, u, e5⟩ := delC_0 q20.2.2
       obtain ⟨w1, w2, w3⟩ := setAt_some e5
       obtain ⟨f1, f2, f3⟩ := hx25
       subst f1 f2
       rw [if_pos ⟨w1, w2⟩] at f3
       subst f3
       rw [show delS ss n y = ss.set (n - 1).toNat none from if_pos ⟨q20.2.1, c0⟩]
       obtain ⟨k1, k2⟩ := RSs_drop hR2 (k := (n - 1).toNat) (by omega)
       refine ⟨rfl, WN.of2 hK2 (opR hW2 k1 k2 (fun i hi => Or.inl ⟨i, ?_, rfl⟩))⟩
       rw [getD_setS (by omega)] at hi
       by_cases w : i = (n - 1).toNat
       · rw [if_pos w] at hi; exact absurd rfl hi
       · rw [if_neg w] at hi; exact hi)
    | (rw [show delS ss n y = ss from if_neg (by
         rintro ⟨w1, w2⟩
         rcases hr14 with ⟨u1, u2⟩ | ⟨u1, u2⟩
         · omega
         · exact u2 ⟨by omega, w1, Or.inl w2⟩)]
       exact ⟨rfl, WN.of ⟨hW2, hK2⟩⟩)
