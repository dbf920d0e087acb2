/-! Libraries: copying many -/
section LD
variable {rp : List Int} {ms : List (Option MemT)}
def cnt (p : Int → Bool) : Nat → Int → Nat
  | 0, _ => 0
  | k + 1, n => (if p n then 1 else 0) + cnt p k (n + 1)
theorem cnt_mono {p q : Int → Bool} : ∀ (k : Nat) (n : Int), (∀ j, n ≤ j → p j = true → q j = true) → cnt p k n ≤ cnt q k n
  | 0, _, _ => Nat.le_refl _
  | k + 1, n, h => by
    have h1 := cnt_mono k (n + 1) (fun j hj => h j (by omega))
    have h2 := h n (by omega)
    unfold cnt
    by_cases e : p n = true
    · rw [if_pos e, if_pos (h2 e)]; omega
    · rw [if_neg e]; omega
def tn (w n : Int) : Int := if w = -1 then n else w
def srcB (ms : List (Option MemT)) (f : Int) (n : Int) : Bool := decide (memS ms f n ≠ 0)
def frsB (ms : List (Option MemT)) (f t w : Int) (n : Int) : Bool := decide (memS ms f n ≠ 0 ∧ memS ms t (tn w n) = 0)
def lftB (rp : List Int) (ms : List (Option MemT)) (f t w : Int) (n : Int) : Bool := decide (memS ms f n ≠ 0 ∧ memS ms t (tn w n) ≠ 0 ∧ memS ms t (tn w n) ≠ memS ms f n ∧ ¬ rpl rp t)
/-- room for what is copied stays -/
theorem frs_step {f t w n : Int} {k : Nat} (h : ms.length + cnt (frsB ms f t w) (k + 1) n ≤ 80) : (cp1 rp ms f n t (tn w n)).length + cnt (frsB (cp1 rp ms f n t (tn w n)) f t w) k (n + 1) ≤ 80 := by
  unfold cnt at h
  by_cases h1 : memS ms f n = 0
  · rw [cp1_no (Or.inl h1)]; omega
  by_cases h2 : memS ms t (tn w n) = 0
  · rw [cp1_new h1 h2]
    have e : frsB ms f t w n = true := by simp [frsB, h1, h2]
    rw [if_pos e] at h
    have hm : cnt (frsB (ms ++ [some (t, tn w n, lnsAt ms (memS ms f n))]) f t w) k (n + 1) ≤ cnt (frsB ms f t w) k (n + 1) := by
      refine cnt_mono k (n + 1) (fun j hj hp => ?_)
      unfold frsB at hp ⊢
      rw [decide_eq_true_eq] at hp ⊢
      rw [memS_app (y := (t, tn w n, lnsAt ms (memS ms f n))) f j h2, memS_app (y := (t, tn w n, lnsAt ms (memS ms f n))) t (tn w j) h2] at hp
      obtain ⟨p1, p2⟩ := hp
      have q1 : ¬ (t = t ∧ tn w j = tn w n) := fun q => by rw [if_pos q] at p2; omega
      rw [if_neg q1] at p2
      refine ⟨?_, p2⟩
      by_cases q2 : f = t ∧ j = tn w n
      · exfalso
        unfold tn at q1 q2
        by_cases q3 : w = -1
        · rw [if_pos q3] at q2; omega
        · rw [if_neg q3, if_neg q3] at q1; exact q1 ⟨rfl, rfl⟩
      · rw [if_neg q2] at p1; exact p1
    rw [List.length_append, List.length_singleton]
    omega
  by_cases h3 : memS ms f n = memS ms t (tn w n)
  · rw [cp1_no (Or.inr (Or.inl h3))]; omega
  by_cases h4 : rpl rp t
  · rw [cp1_set h1 h3 h2 h4, List.length_set]
    obtain ⟨x, x1, x2, x3⟩ := memS_is h2
    have e : ∀ l j, memS (ms.set (memS ms t (tn w n) - 1) (some (t, tn w n, lnsAt ms (memS ms f n)))) l j = memS ms l j := fun l j => memS_ext (by rw [List.length_set]) (fun i => memS_set (y := (t, tn w n, lnsAt ms (memS ms f n))) x1 x2.symm x3.symm i l j)
    have e2 : frsB (ms.set (memS ms t (tn w n) - 1) (some (t, tn w n, lnsAt ms (memS ms f n)))) f t w = frsB ms f t w := by
      funext j
      unfold frsB
      rw [e, e]
    rw [e2]
    omega
  · rw [cp1_no (Or.inr (Or.inr ⟨h2, h4⟩))]; omega
theorem frs_room {f t w n : Int} {k : Nat} (h : ms.length + cnt (frsB ms f t w) (k + 1) n ≤ 80) (h1 : memS ms f n ≠ 0) (h2 : memS ms t (tn w n) = 0) : ms.length < 80 := by
  unfold cnt at h
  have e : frsB ms f t w n = true := by simp [frsB, h1, h2]
  rw [if_pos e] at h
  omega
theorem getD_sub {k : Nat} {x : MemT} (h : ms.getD k none = some x) {l : Int} (e : l = k + 1) : memAt ms l = some x := by
  rw [memAt, if_pos (by omega)]
  rw [show (l - 1).toNat = k by omega]
  exact h
theorem cpN_tn (f t w : Int) (k : Nat) (n : Int) (ms : List (Option MemT)) : cpN rp f t w (k + 1) n ms = cpN rp f t w k (n + 1) (cp1 rp ms f n t (tn w n)) := rfl
theorem set_appM {x y : Option MemT} : (ms ++ [x]).set ms.length y = ms ++ [y] := by
  apply List.ext_getElem?
  intro j
  rw [List.getElem?_set]
  by_cases h : ms.length = j
  · subst h
    simp
  · rw [if_neg h]
    by_cases h2 : j < ms.length
    · rw [List.getElem?_append_left h2, List.getElem?_append_left h2]
    · rw [List.getElem?_eq_none (by simp; omega), List.getElem?_eq_none (by simp; omega)]
end LD
set_option maxHeartbeats 4000000 in
set_option maxRecDepth 100000 in
theorem kX3_copyMember (lc : Launch) (D : va_G) (ac : Nat → ClassId) {sh : Nat → Nat × Nat} {rf : Nat → Nat → Option Nat} {mem : Nat → Nat → Int} (a a0 a1 a2 : Nat) (la l0 l1 l2 : Nat → Nat) (rp : List Int) (ms : List (Option MemT)) (f n t m : Int) (hO : LbO sh rf a a0 a1 a2) (hv : LbV sh rf mem a a0 a1 a2 la l0 l1 l2 rp ms) (h_p : inR f) (h_q : inR n) (hto : 1 ≤ t ∧ t ≤ rp.length) (hm : 0 ≤ m ∧ m < 100) (hroom : memS ms f n ≠ 0 → memS ms t m = 0 → ms.length < 80) : gMet lc D ac mX3_copyMember 3 [.ref a, .int (iI f), .int (iI n), .int (iI t), .int (iI m)] (4 * ((cp1 rp ms f n t m).length - ms.length)) (364 * ((cp1 rp ms f n t m).length - ms.length)) sh rf mem (pU (fun sh1 rf1 mem1 => ∃ ka k0 k1 k2, LbN sh rf mem a a0 a1 a2 la l0 l1 l2 rp ms sh1 rf1 mem1 (cp1 rp ms f n t m) ka k0 k1 k2)) := by
  refine gMet.mk (by decide) (by intro v hv; simp at hv; (try rcases hv with rfl | rfl | rfl | rfl | rfl) <;> rfl) (Nat.le_of_ble_eq_true rfl) (fun X hC hI => ?_)
  show gG X sh rf mem 0 0 0 [some (.ref a), some (.int (iI f)), some (.int (iI n)), some (.int (iI t)), some (.int (iI m)), none, none, none, none] []
  have hO9 := hO
  have hv9 := hv
  obtain ⟨n1, n2, n3, n4, n5, n6⟩ := hO.ne
  obtain ⟨ho, hr0, hr1, hr2, hs0, hs1, hs2⟩ := hO
  obtain ⟨v1, v2, v3, v4, v5, v6, v7, v8, v9⟩ := hv
  have i_p := h_p
  obtain ⟨p1, p2⟩ := h_p
  have i_q := h_q
  obtain ⟨q1, q2⟩ := h_q
  have le1 := memS_le f n ms
  have le2 := memS_le t m ms
  refine g_aload_n hC dX3_copyMember_0 rfl ?_
  refine g_iload_n hC dX3_copyMember_1 rfl ?_
  refine g_iload_n hC dX3_copyMember_2 rfl ?_
  refine g_VP hC (kX3_numberOf (gl X) (gD X) (gac X) a a0 a1 a2 la l0 l1 l2 rp ms f n hO9 hv9 i_p i_q) cvX3_numberOf lkX3_69 (by assumption) rfl rfl (Nat.le_of_ble_eq_true rfl) (hI.fit (Nat.le_of_ble_eq_true rfl) (by first | exact Nat.zero_le _ | (rw [cp9]; simp)) (by first | exact Nat.zero_le _ | (rw [cp9]; simp))) dX3_copyMember_3 (fun x3 hx3 => ?_)
  subst hx3
  refine g_istore hC dX3_copyMember_6 (Nat.le_of_ble_eq_true rfl) ?_
  dsimp only [List.set]
  refine g_aload_n hC dX3_copyMember_8 rfl ?_
  refine g_iload_n hC dX3_copyMember_9 rfl ?_
  refine g_iload hC dX3_copyMember_10 rfl ?_
  refine g_VP hC (kX3_numberOf (gl X) (gD X) (gac X) a a0 a1 a2 la l0 l1 l2 rp ms t m hO9 hv9 ⟨by omega, by omega⟩ ⟨by omega, by omega⟩) cvX3_numberOf lkX3_69 (by assumption) rfl rfl (Nat.le_of_ble_eq_true rfl) (hI.fit (Nat.le_of_ble_eq_true rfl) (by first | exact Nat.zero_le _ | (rw [cp9]; simp)) (by first | exact Nat.zero_le _ | (rw [cp9]; simp))) dX3_copyMember_12 (fun x12 hx12 => ?_)
  subst hx12
  refine g_istore hC dX3_copyMember_15 (Nat.le_of_ble_eq_true rfl) ?_
  dsimp only [List.set]
  refine g_iload hC dX3_copyMember_17 rfl ?_
  refine g_if_eq (tgt := 42) hC dX3_copyMember_19 (by decide) ⟨by omega, by omega⟩ (fun h19 => ?_) (fun h19 => ?_)
  · refine g_vret hC hI rfl dX3_copyMember_42 (by first | exact Nat.zero_le _ | (rw [cp9]; simp)) (by first | exact Nat.zero_le _ | (rw [cp9]; simp)) ⟨rfl, ?_⟩
    first
    | exact ⟨la, l0, l1, l2, by rw [cp1_no (Or.inl (by omega))]; exact LbN.rf0 hO9 hv9⟩
    | exact ⟨la, l0, l1, l2, by rw [cp1_no (Or.inr (Or.inl (by omega)))]; exact LbN.rf0 hO9 hv9⟩
    | exact ⟨la, l0, l1, l2, by rw [cp1_no (Or.inr (Or.inr ⟨by omega, by rcases hx36 with ⟨w, -⟩ | ⟨-, w⟩; exact absurd w (by omega); exact w⟩))]; exact LbN.rf0 hO9 hv9⟩
  · refine g_iload hC dX3_copyMember_22 rfl ?_
    refine g_iload hC dX3_copyMember_24 rfl ?_
    refine g_icmp_eq (tgt := 42) hC dX3_copyMember_26 (by decide) ⟨by omega, by omega⟩ ⟨by omega, by omega⟩ (fun h26 => ?_) (fun h26 => ?_)
    · refine g_vret hC hI rfl dX3_copyMember_42 (by first | exact Nat.zero_le _ | (rw [cp9]; simp)) (by first | exact Nat.zero_le _ | (rw [cp9]; simp)) ⟨rfl, ?_⟩
      first
      | exact ⟨la, l0, l1, l2, by rw [cp1_no (Or.inl (by omega))]; exact LbN.rf0 hO9 hv9⟩
      | exact ⟨la, l0, l1, l2, by rw [cp1_no (Or.inr (Or.inl (by omega)))]; exact LbN.rf0 hO9 hv9⟩
      | exact ⟨la, l0, l1, l2, by rw [cp1_no (Or.inr (Or.inr ⟨by omega, by rcases hx36 with ⟨w, -⟩ | ⟨-, w⟩; exact absurd w (by omega); exact w⟩))]; exact LbN.rf0 hO9 hv9⟩
    · refine g_iload hC dX3_copyMember_29 rfl ?_
      refine g_if_eq (tgt := 43) hC dX3_copyMember_31 (by decide) ⟨by omega, by omega⟩ (fun h31 => ?_) (fun h31 => ?_)
      · refine g_aload_n hC dX3_copyMember_43 rfl ?_
        refine g_iload hC dX3_copyMember_44 rfl ?_
        refine g_VR hC (kX3_linesOf (gl X) (gD X) (gac X) a a0 a1 a2 la l0 l1 l2 rp ms _ hO9 hv9 ⟨by omega, by omega⟩) cvX3_linesOf lkX3_75 (by assumption) rfl rfl (Nat.le_of_ble_eq_true rfl) (hI.fit (Nat.le_of_ble_eq_true rfl) (by first | exact Nat.zero_le _ | (rw [cp9]; simp)) (by first | exact Nat.zero_le _ | (rw [cp9]; simp))) dX3_copyMember_46 (fun x46 hx46 => ?_)
        obtain ⟨y, y1, y2, y3⟩ := memAt_num (show memS ms f n ≠ 0 by omega)
        have T2 := LbV.at hv9 y1
        have y4 := (memAt_some y1).2.2
        have y5 := lnsAt_eq y1
        rw [y1] at hx46
        subst hx46
        have cpn := cp1_new (rp := rp) (ms := ms) (f := f) (n := n) (t := t) (m := m) (by omega)
        have cps := cp1_set (rp := rp) (ms := ms) (f := f) (n := n) (t := t) (m := m) (by omega) (by omega)
        have o46 := T2.1.1
        refine g_astore hC dX3_copyMember_49 (Nat.le_of_ble_eq_true rfl) ?_
        dsimp only [List.set]
        refine g_aload_n hC dX3_copyMember_51 rfl ?_
        refine g_iload hC dX3_copyMember_52 rfl ?_
        refine g_if_ne (tgt := 67) hC dX3_copyMember_54 (by decide) ⟨by omega, by omega⟩ (fun h54 => ?_) (fun h54 => ?_)
        · obtain ⟨x, z67, z2, z3⟩ := memAt_num (show memS ms t m ≠ 0 by omega)
          have hO5 := hO9
          have hv5 := hv9
          have ho5 := ho
          have cp9 := cps (by omega) (by first | (exfalso; omega) | (rcases hx36 with ⟨-, w⟩ | ⟨w, -⟩; exact w; exact absurd w (by omega)))
          have T1 := LbV.at hv5 z67
          have T3 := hv5.2.2.2.2.2.2.1 ((memS ms t m : Int) - 1).toNat ((memS ms f n : Int) - 1).toNat (by omega) (by omega) (by omega) (by rw [(memAt_some z67).2.2]; simp) (by rw [y4]; simp)
          have X1 := (memAt_some z67).2.2
          refine g_iload hC dX3_copyMember_67 rfl ?_
          refine g_VR hC (kX3_linesOf (gl X) (gD X) (gac X) a a0 a1 a2 _ _ _ _ rp _ _ hO5 hv5 ⟨by omega, by omega⟩) cvX3_linesOf lkX3_75 (by assumption) rfl rfl (Nat.le_of_ble_eq_true rfl) (hI.fit (Nat.le_of_ble_eq_true rfl) (by first | exact Nat.zero_le _ | (rw [cp9]; simp)) (by first | exact Nat.zero_le _ | (rw [cp9]; simp))) dX3_copyMember_69 (fun x69 hx69 => ?_)
          have X2 := T1.1.1
          have X3 := T2.1.1
          first | (rw [z61] at hx69; subst hx69) | (rw [z67] at hx69; subst hx69)
          refine g_astore hC dX3_copyMember_72 (Nat.le_of_ble_eq_true rfl) ?_
          dsimp only [List.set]
          refine g_aload hC dX3_copyMember_74 rfl ?_
          refine g_ifnullR hC dX3_copyMember_76 ?_
          refine g_aload hC dX3_copyMember_79 rfl ?_
          refine g_ifnullR hC dX3_copyMember_81 ?_
          refine g_aload hC dX3_copyMember_84 rfl ?_
          refine g_aload hC dX3_copyMember_86 rfl ?_
          refine g_VV hC (kX4_takeAll (gl X) (gD X) (gac X) _ _ _ _ _ _ _ _ _ T1.1 T1.2.1 T2.1 T2.2.1 T2.2.2 T3) cvX4_takeAll lkX3_82 (by assumption) rfl rfl (Nat.le_of_ble_eq_true rfl) (hI.fit (Nat.le_of_ble_eq_true rfl) (by first | exact Nat.zero_le _ | (rw [cp9]; simp)) (by first | exact Nat.zero_le _ | (rw [cp9]; simp))) dX3_copyMember_88 (fun mem88 hx88 => ?_)
          refine g_vret hC hI rfl dX3_copyMember_91 (by first | exact Nat.zero_le _ | (rw [cp9]; simp)) (by first | exact Nat.zero_le _ | (rw [cp9]; simp)) ⟨rfl, ?_⟩
          obtain ⟨u1, u2, u3⟩ := hx88
          have K := LbN.set hO5 hv5 X1 u1 u2 u3
          first
          | (rw [show ((ms.length + 1 : Int) - 1).toNat = ms.length by omega, set_appM] at K
             rw [cp9, y5]
             exact ⟨_, _, _, _, hN5.trans K⟩)
          | (rw [show ((memS ms t m : Int) - 1).toNat = memS ms t m - 1 by omega, z2, z3] at K
             rw [cp9, y5]
             exact ⟨_, _, _, _, K⟩)
        · refine g_aload_n hC dX3_copyMember_57 rfl ?_
          refine g_iload_n hC dX3_copyMember_58 rfl ?_
          refine g_iload hC dX3_copyMember_59 rfl ?_
          have cp9 := cpn (by omega)
          refine g_VA hC (kX3_addMember (gl X) (gD X) (gac X) a a0 a1 a2 la l0 l1 l2 rp ms t m hO9 hv9 ⟨by omega, by omega⟩ ⟨by omega, by omega⟩ (by omega)) cvX3_addMember lkX3_79 (by assumption) rfl rfl (Nat.le_of_ble_eq_true rfl) (hI.fit (Nat.le_of_ble_eq_true rfl) (by first | exact Nat.zero_le _ | (rw [cp9]; simp)) (by first | exact Nat.zero_le _ | (rw [cp9]; simp))) dX3_copyMember_61 (fun x61 sh61 rf61 mem61 hx61 => ?_)
          rcases hx61 with ⟨q, -⟩ | ⟨q, rfl, s, s0, s1, s2, hN⟩
          · exfalso; omega
          have hN5 := hN
          obtain ⟨hO5, hv5, hF5, hR5⟩ := hN
          have ho5 := hO5.1
          have z61 : memAt (ms ++ [some (t, m, [])]) (ms.length + 1) = some (t, m, []) := getD_sub (k := ms.length) (by rw [getD_appM, if_pos rfl]) (by omega)
          have b1 : memAt (ms ++ [some (t, m, [])]) (memS ms f n) = some y := memAt_app y1
          have ev : ∀ (g : Nat → Nat) (s : Nat), va_up g ms.length s ((memS ms f n : Int) - 1).toNat = g ((memS ms f n : Int) - 1).toNat := fun g s => va_up_ne _ _ (by omega)
          have T2 := LbV.at hv5 b1
          rw [ev, ev, ev, ev] at T2
          have T1 := LbV.at hv5 z61
          have T3 := hv5.2.2.2.2.2.2.1 ((ms.length + 1 : Int) - 1).toNat ((memS ms f n : Int) - 1).toNat (by simp) (by simp; omega) (by omega) (by rw [(memAt_some z61).2.2]; simp) (by rw [(memAt_some b1).2.2]; simp)
          rw [ev, ev, ev, ev] at T3
          have X1 := (memAt_some z61).2.2
          refine g_goto (tgt := 69) hC dX3_copyMember_64 (by decide) ?_
          refine g_VR hC (kX3_linesOf (gl X) (gD X) (gac X) a a0 a1 a2 _ _ _ _ rp _ _ hO5 hv5 ⟨by omega, by omega⟩) cvX3_linesOf lkX3_75 (by assumption) rfl rfl (Nat.le_of_ble_eq_true rfl) (hI.fit (Nat.le_of_ble_eq_true rfl) (by first | exact Nat.zero_le _ | (rw [cp9]; simp)) (by first | exact Nat.zero_le _ | (rw [cp9]; simp))) dX3_copyMember_69 (fun x69 hx69 => ?_)
          have X2 := T1.1.1
          have X3 := T2.1.1
          first | (rw [z61] at hx69; subst hx69) | (rw [z67] at hx69; subst hx69)
          refine g_astore hC dX3_copyMember_72 (Nat.le_of_ble_eq_true rfl) ?_
          dsimp only [List.set]
          refine g_aload hC dX3_copyMember_74 rfl ?_
          refine g_ifnullR hC dX3_copyMember_76 ?_
          refine g_aload hC dX3_copyMember_79 rfl ?_
          refine g_ifnullR hC dX3_copyMember_81 ?_
          refine g_aload hC dX3_copyMember_84 rfl ?_
          refine g_aload hC dX3_copyMember_86 rfl ?_
          refine g_VV hC (kX4_takeAll (gl X) (gD X) (gac X) _ _ _ _ _ _ _ _ _ T1.1 T1.2.1 T2.1 T2.2.1 T2.2.2 T3) cvX4_takeAll lkX3_82 (by assumption) rfl rfl (Nat.le_of_ble_eq_true rfl) (hI.fit (Nat.le_of_ble_eq_true rfl) (by first | exact Nat.zero_le _ | (rw [cp9]; simp)) (by first | exact Nat.zero_le _ | (rw [cp9]; simp))) dX3_copyMember_88 (fun mem88 hx88 => ?_)
          refine g_vret hC hI rfl dX3_copyMember_91 (by first | exact Nat.zero_le _ | (rw [cp9]; simp)) (by first | exact Nat.zero_le _ | (rw [cp9]; simp)) ⟨rfl, ?_⟩
          obtain ⟨u1, u2, u3⟩ := hx88
          have K := LbN.set hO5 hv5 X1 u1 u2 u3
          first
          | (rw [show ((ms.length + 1 : Int) - 1).toNat = ms.length by omega, set_appM] at K
             rw [cp9, y5]
             exact ⟨_, _, _, _, hN5.trans K⟩)
          | (rw [show ((memS ms t m : Int) - 1).toNat = memS ms t m - 1 by omega, z2, z3] at K
             rw [cp9, y5]
             exact ⟨_, _, _, _, K⟩)
      · refine g_aload_n hC dX3_copyMember_34 rfl ?_
        refine g_iload_n hC dX3_copyMember_35 rfl ?_
        refine g_VP hC (kX3_isReplacing (gl X) (gD X) (gac X) a a0 a1 a2 la l0 l1 l2 rp ms t hO9 hv9 ⟨by omega, by omega⟩) cvX3_isReplacing lkX3_72 (by assumption) rfl rfl (Nat.le_of_ble_eq_true rfl) (hI.fit (Nat.le_of_ble_eq_true rfl) (by first | exact Nat.zero_le _ | (rw [cp9]; simp)) (by first | exact Nat.zero_le _ | (rw [cp9]; simp))) dX3_copyMember_36 (fun x36 hx36 => ?_)
        refine g_if_ne (tgt := 43) hC dX3_copyMember_39 (by decide) ⟨by omega, by omega⟩ (fun h39 => ?_) (fun h39 => ?_)
        · refine g_aload_n hC dX3_copyMember_43 rfl ?_
          refine g_iload hC dX3_copyMember_44 rfl ?_
          refine g_VR hC (kX3_linesOf (gl X) (gD X) (gac X) a a0 a1 a2 la l0 l1 l2 rp ms _ hO9 hv9 ⟨by omega, by omega⟩) cvX3_linesOf lkX3_75 (by assumption) rfl rfl (Nat.le_of_ble_eq_true rfl) (hI.fit (Nat.le_of_ble_eq_true rfl) (by first | exact Nat.zero_le _ | (rw [cp9]; simp)) (by first | exact Nat.zero_le _ | (rw [cp9]; simp))) dX3_copyMember_46 (fun x46 hx46 => ?_)
          obtain ⟨y, y1, y2, y3⟩ := memAt_num (show memS ms f n ≠ 0 by omega)
          have T2 := LbV.at hv9 y1
          have y4 := (memAt_some y1).2.2
          have y5 := lnsAt_eq y1
          rw [y1] at hx46
          subst hx46
          have cpn := cp1_new (rp := rp) (ms := ms) (f := f) (n := n) (t := t) (m := m) (by omega)
          have cps := cp1_set (rp := rp) (ms := ms) (f := f) (n := n) (t := t) (m := m) (by omega) (by omega)
          have o46 := T2.1.1
          refine g_astore hC dX3_copyMember_49 (Nat.le_of_ble_eq_true rfl) ?_
          dsimp only [List.set]
          refine g_aload_n hC dX3_copyMember_51 rfl ?_
          refine g_iload hC dX3_copyMember_52 rfl ?_
          refine g_if_ne (tgt := 67) hC dX3_copyMember_54 (by decide) ⟨by omega, by omega⟩ (fun h54 => ?_) (fun h54 => ?_)
          · obtain ⟨x, z67, z2, z3⟩ := memAt_num (show memS ms t m ≠ 0 by omega)
            have hO5 := hO9
            have hv5 := hv9
            have ho5 := ho
            have cp9 := cps (by omega) (by first | (exfalso; omega) | (rcases hx36 with ⟨-, w⟩ | ⟨w, -⟩; exact w; exact absurd w (by omega)))
            have T1 := LbV.at hv5 z67
            have T3 := hv5.2.2.2.2.2.2.1 ((memS ms t m : Int) - 1).toNat ((memS ms f n : Int) - 1).toNat (by omega) (by omega) (by omega) (by rw [(memAt_some z67).2.2]; simp) (by rw [y4]; simp)
            have X1 := (memAt_some z67).2.2
            refine g_iload hC dX3_copyMember_67 rfl ?_
            refine g_VR hC (kX3_linesOf (gl X) (gD X) (gac X) a a0 a1 a2 _ _ _ _ rp _ _ hO5 hv5 ⟨by omega, by omega⟩) cvX3_linesOf lkX3_75 (by assumption) rfl rfl (Nat.le_of_ble_eq_true rfl) (hI.fit (Nat.le_of_ble_eq_true rfl) (by first | exact Nat.zero_le _ | (rw [cp9]; simp)) (by first | exact Nat.zero_le _ | (rw [cp9]; simp))) dX3_copyMember_69 (fun x69 hx69 => ?_)
            have X2 := T1.1.1
            have X3 := T2.1.1
            first | (rw [z61] at hx69; subst hx69) | (rw [z67] at hx69; subst hx69)
            refine g_astore hC dX3_copyMember_72 (Nat.le_of_ble_eq_true rfl) ?_
            dsimp only [List.set]
            refine g_aload hC dX3_copyMember_74 rfl ?_
            refine g_ifnullR hC dX3_copyMember_76 ?_
            refine g_aload hC dX3_copyMember_79 rfl ?_
            refine g_ifnullR hC dX3_copyMember_81 ?_
            refine g_aload hC dX3_copyMember_84 rfl ?_
            refine g_aload hC dX3_copyMember_86 rfl ?_
            refine g_VV hC (kX4_takeAll (gl X) (gD X) (gac X) _ _ _ _ _ _ _ _ _ T1.1 T1.2.1 T2.1 T2.2.1 T2.2.2 T3) cvX4_takeAll lkX3_82 (by assumption) rfl rfl (Nat.le_of_ble_eq_true rfl) (hI.fit (Nat.le_of_ble_eq_true rfl) (by first | exact Nat.zero_le _ | (rw [cp9]; simp)) (by first | exact Nat.zero_le _ | (rw [cp9]; simp))) dX3_copyMember_88 (fun mem88 hx88 => ?_)
            refine g_vret hC hI rfl dX3_copyMember_91 (by first | exact Nat.zero_le _ | (rw [cp9]; simp)) (by first | exact Nat.zero_le _ | (rw [cp9]; simp)) ⟨rfl, ?_⟩
            obtain ⟨u1, u2, u3⟩ := hx88
            have K := LbN.set hO5 hv5 X1 u1 u2 u3
            first
            | (rw [show ((ms.length + 1 : Int) - 1).toNat = ms.length by omega, set_appM] at K
               rw [cp9, y5]
               exact ⟨_, _, _, _, hN5.trans K⟩)
            | (rw [show ((memS ms t m : Int) - 1).toNat = memS ms t m - 1 by omega, z2, z3] at K
               rw [cp9, y5]
               exact ⟨_, _, _, _, K⟩)
          · refine g_aload_n hC dX3_copyMember_57 rfl ?_
            refine g_iload_n hC dX3_copyMember_58 rfl ?_
            refine g_iload hC dX3_copyMember_59 rfl ?_
            have cp9 := cpn (by omega)
            refine g_VA hC (kX3_addMember (gl X) (gD X) (gac X) a a0 a1 a2 la l0 l1 l2 rp ms t m hO9 hv9 ⟨by omega, by omega⟩ ⟨by omega, by omega⟩ (by omega)) cvX3_addMember lkX3_79 (by assumption) rfl rfl (Nat.le_of_ble_eq_true rfl) (hI.fit (Nat.le_of_ble_eq_true rfl) (by first | exact Nat.zero_le _ | (rw [cp9]; simp)) (by first | exact Nat.zero_le _ | (rw [cp9]; simp))) dX3_copyMember_61 (fun x61 sh61 rf61 mem61 hx61 => ?_)
            rcases hx61 with ⟨q, -⟩ | ⟨q, rfl, s, s0, s1, s2, hN⟩
            · exfalso; omega
            have hN5 := hN
            obtain ⟨hO5, hv5, hF5, hR5⟩ := hN
            have ho5 := hO5.1
            have z61 : memAt (ms ++ [some (t, m, [])]) (ms.length + 1) = some (t, m, []) := getD_sub (k := ms.length) (by rw [getD_appM, if_pos rfl]) (by omega)
            have b1 : memAt (ms ++ [some (t, m, [])]) (memS ms f n) = some y := memAt_app y1
            have ev : ∀ (g : Nat → Nat) (s : Nat), va_up g ms.length s ((memS ms f n : Int) - 1).toNat = g ((memS ms f n : Int) - 1).toNat := fun g s => va_up_ne _ _ (by omega)
            have T2 := LbV.at hv5 b1
            rw [ev, ev, ev, ev] at T2
            have T1 := LbV.at hv5 z61
            have T3 := hv5.2.2.2.2.2.2.1 ((ms.length + 1 : Int) - 1).toNat ((memS ms f n : Int) - 1).toNat (by simp) (by simp; omega) (by omega) (by rw [(memAt_some z61).2.2]; simp) (by rw [(memAt_some b1).2.2]; simp)
            rw [ev, ev, ev, ev] at T3
            have X1 := (memAt_some z61).2.2
            refine g_goto (tgt := 69) hC dX3_copyMember_64 (by decide) ?_
            refine g_VR hC (kX3_linesOf (gl X) (gD X) (gac X) a a0 a1 a2 _ _ _ _ rp _ _ hO5 hv5 ⟨by omega, by omega⟩) cvX3_linesOf lkX3_75 (by assumption) rfl rfl (Nat.le_of_ble_eq_true rfl) (hI.fit (Nat.le_of_ble_eq_true rfl) (by first | exact Nat.zero_le _ | (rw [cp9]; simp)) (by first | exact Nat.zero_le _ | (rw [cp9]; simp))) dX3_copyMember_69 (fun x69 hx69 => ?_)
            have X2 := T1.1.1
            have X3 := T2.1.1
            first | (rw [z61] at hx69; subst hx69) | (rw [z67] at hx69; subst hx69)
            refine g_astore hC dX3_copyMember_72 (Nat.le_of_ble_eq_true rfl) ?_
            dsimp only [List.set]
            refine g_aload hC dX3_copyMember_74 rfl ?_
            refine g_ifnullR hC dX3_copyMember_76 ?_
            refine g_aload hC dX3_copyMember_79 rfl ?_
            refine g_ifnullR hC dX3_copyMember_81 ?_
            refine g_aload hC dX3_copyMember_84 rfl ?_
            refine g_aload hC dX3_copyMember_86 rfl ?_
            refine g_VV hC (kX4_takeAll (gl X) (gD X) (gac X) _ _ _ _ _ _ _ _ _ T1.1 T1.2.1 T2.1 T2.2.1 T2.2.2 T3) cvX4_takeAll lkX3_82 (by assumption) rfl rfl (Nat.le_of_ble_eq_true rfl) (hI.fit (Nat.le_of_ble_eq_true rfl) (by first | exact Nat.zero_le _ | (rw [cp9]; simp)) (by first | exact Nat.zero_le _ | (rw [cp9]; simp))) dX3_copyMember_88 (fun mem88 hx88 => ?_)
            refine g_vret hC hI rfl dX3_copyMember_91 (by first | exact Nat.zero_le _ | (rw [cp9]; simp)) (by first | exact Nat.zero_le _ | (rw [cp9]; simp)) ⟨rfl, ?_⟩
            obtain ⟨u1, u2, u3⟩ := hx88
            have K := LbN.set hO5 hv5 X1 u1 u2 u3
            first
            | (rw [show ((ms.length + 1 : Int) - 1).toNat = ms.length by omega, set_appM] at K
               rw [cp9, y5]
               exact ⟨_, _, _, _, hN5.trans K⟩)
            | (rw [show ((memS ms t m : Int) - 1).toNat = memS ms t m - 1 by omega, z2, z3] at K
               rw [cp9, y5]
               exact ⟨_, _, _, _, K⟩)
        · refine g_vret hC hI rfl dX3_copyMember_42 (by first | exact Nat.zero_le _ | (rw [cp9]; simp)) (by first | exact Nat.zero_le _ | (rw [cp9]; simp)) ⟨rfl, ?_⟩
          first
          | exact ⟨la, l0, l1, l2, by rw [cp1_no (Or.inl (by omega))]; exact LbN.rf0 hO9 hv9⟩
          | exact ⟨la, l0, l1, l2, by rw [cp1_no (Or.inr (Or.inl (by omega)))]; exact LbN.rf0 hO9 hv9⟩
          | exact ⟨la, l0, l1, l2, by rw [cp1_no (Or.inr (Or.inr ⟨by omega, by rcases hx36 with ⟨w, -⟩ | ⟨-, w⟩; exact absurd w (by omega); exact w⟩))]; exact LbN.rf0 hO9 hv9⟩
set_option maxHeartbeats 4000000 in
set_option maxRecDepth 100000 in
theorem kX3_copyMembers (lc : Launch) (D : va_G) (ac : Nat → ClassId) {sh : Nat → Nat × Nat} {rf : Nat → Nat → Option Nat} {mem : Nat → Nat → Int} (a a0 a1 a2 : Nat) (la l0 l1 l2 : Nat → Nat) (rp : List Int) (ms : List (Option MemT)) (f t n w : Int) (hO : LbO sh rf a a0 a1 a2) (hv : LbV sh rf mem a a0 a1 a2 la l0 l1 l2 rp ms) (h_p : inR f) (hto : 1 ≤ t ∧ t ≤ rp.length) (hn : n = -1 ∨ (0 ≤ n ∧ n < 100)) (hw : w = -1 ∨ (0 ≤ w ∧ w < 100)) (hroom : ms.length + cnt (frsB ms f t w) (if n = -1 then 100 else 1) (if n = -1 then 0 else n) ≤ 80) : gMet lc D ac mX3_copyMembers 4 [.ref a, .int (iI f), .int (iI t), .int (iI n), .int (iI w)] (4 * ((cpN rp f t w (if n = -1 then 100 else 1) (if n = -1 then 0 else n) ms).length - ms.length)) (364 * ((cpN rp f t w (if n = -1 then 100 else 1) (if n = -1 then 0 else n) ms).length - ms.length)) sh rf mem (pU (fun sh1 rf1 mem1 => ∃ ka k0 k1 k2, LbN sh rf mem a a0 a1 a2 la l0 l1 l2 rp ms sh1 rf1 mem1 (cpN rp f t w (if n = -1 then 100 else 1) (if n = -1 then 0 else n) ms) ka k0 k1 k2)) := by
  refine gMet.mk (by decide) (by intro v hv; simp at hv; (try rcases hv with rfl | rfl | rfl | rfl | rfl) <;> rfl) (Nat.le_of_ble_eq_true rfl) (fun X hC hI => ?_)
  show gG X sh rf mem 0 0 0 [some (.ref a), some (.int (iI f)), some (.int (iI t)), some (.int (iI n)), some (.int (iI w)), none, none] []
  have hO9 := hO
  have hv9 := hv
  obtain ⟨n1, n2, n3, n4, n5, n6⟩ := hO.ne
  obtain ⟨ho, hr0, hr1, hr2, hs0, hs1, hs2⟩ := hO
  obtain ⟨v1, v2, v3, v4, v5, v6, v7, v8, v9⟩ := hv
  have i_p := h_p
  obtain ⟨p1, p2⟩ := h_p
  have LL : ms.length ≤ (cpN rp f t w (if n = -1 then 100 else 1) (if n = -1 then 0 else n) ms).length := cpN_len _ _ _ _ _ _
  generalize eN : (cpN rp f t w (if n = -1 then 100 else 1) (if n = -1 then 0 else n) ms) = fin at LL hI ⊢
  obtain ⟨K, eK⟩ : ∃ K : Nat, K = (if n = -1 then 100 else 1) := ⟨_, rfl⟩
  obtain ⟨F, eF⟩ : ∃ F : Int, F = (if n = -1 then 0 else n) := ⟨_, rfl⟩
  rw [← eK, ← eF] at hroom eN
  have hF : 0 ≤ F ∧ F + K ≤ 100 ∧ (n = -1 → F = 0 ∧ K = 100) ∧ (n ≠ -1 → F = n ∧ K = 1) := by
    by_cases e : n = -1
    · rw [if_pos e] at eK eF; subst eK eF; exact ⟨by omega, by omega, fun _ => ⟨rfl, rfl⟩, fun h => absurd e h⟩
    · rw [if_neg e] at eK eF; subst eK eF; exact ⟨by omega, by omega, fun h => absurd h e, fun _ => ⟨rfl, rfl⟩⟩
  have J12 : ∀ (k : Nat) (own : Int) sh1 rf1 mem1 (ns : List (Option MemT)) (ka k0 k1 k2 : Nat → Nat), own + k = F + K → 0 ≤ own → LbN sh rf mem a a0 a1 a2 la l0 l1 l2 rp ms sh1 rf1 mem1 ns ka k0 k1 k2 → ns.length + cnt (frsB ns f t w) k own ≤ 80 → cpN rp f t w k own ns = fin → ms.length ≤ ns.length → gG X sh1 rf1 mem1 (4 * (ns.length - ms.length)) (364 * (ns.length - ms.length)) 12 [some (.ref a), some (.int (iI f)), some (.int (iI t)), some (.int (iI n)), some (.int (iI w)), some (.int (iI (F + K - 1))), some (.int (iI own))] [] := by
    intro k
    induction k with
    | zero =>
      intro own sh1 rf1 mem1 ns ka k0 k1 k2 c1 c2 c5 c6 c7 c8
      have e9 : ns = fin := c7
      refine g_iload hC dX3_copyMembers_12 rfl ?_
      refine g_iload hC dX3_copyMembers_14 rfl ?_
      refine g_icmp_gt (tgt := 46) hC dX3_copyMembers_16 (by decide) ⟨by omega, by omega⟩ ⟨by omega, by omega⟩ (fun h16 => ?_) (fun h16 => ?_)
      · refine g_vret hC hI rfl dX3_copyMembers_46 (by rw [e9]; exact Nat.le_refl _) (by rw [e9]; exact Nat.le_refl _) ⟨rfl, ?_⟩
        rw [← e9]
        exact ⟨_, _, _, _, c5⟩
      · exfalso; omega
    | succ k ih =>
      intro own sh1 rf1 mem1 ns ka k0 k1 k2 c1 c2 c5 c6 c7 c8
      obtain ⟨c3, c4, c9, c10⟩ := c5
      have ho := c3.1
      have l1 := cp1_len (rp := rp) (ms := ns) f own t (tn w own)
      have l2 : (cp1 rp ns f own t (tn w own)).length ≤ fin.length := by
        rw [← c7, cpN_tn]
        exact cpN_len _ _ _ _ _ _
      refine g_iload hC dX3_copyMembers_12 rfl ?_
      refine g_iload hC dX3_copyMembers_14 rfl ?_
      refine g_icmp_gt (tgt := 46) hC dX3_copyMembers_16 (by decide) ⟨by omega, by omega⟩ ⟨by omega, by omega⟩ (fun h16 => ?_) (fun h16 => ?_)
      · exfalso; omega
      · refine g_aload_n hC dX3_copyMembers_19 rfl ?_
        refine g_iload_n hC dX3_copyMembers_20 rfl ?_
        refine g_iload hC dX3_copyMembers_21 rfl ?_
        refine g_iload_n hC dX3_copyMembers_23 rfl ?_
        refine g_iload hC dX3_copyMembers_24 rfl ?_
        refine g_iconst hC dX3_copyMembers_26 ?_
        refine g_icmp_ne (tgt := 35) hC dX3_copyMembers_27 (by decide) ⟨by omega, by omega⟩ ⟨by omega, by omega⟩ (fun h27 => ?_) (fun h27 => ?_)
        · refine g_iload hC dX3_copyMembers_35 rfl ?_
          first | have e37 : tn w own = own := by rw [tn, if_pos (by omega)] | have e37 : tn w own = w := by rw [tn, if_neg (by omega)]
          have st := frs_step (rp := rp) c6
          rw [cpN_tn] at c7
          rw [e37] at l1 l2 st c7
          refine g_VU hC (kX3_copyMember (gl X) (gD X) (gac X) a a0 a1 a2 ka k0 k1 k2 rp ns f own t _ c3 c4 i_p ⟨by omega, by omega⟩ hto (by omega) (fun p q => frs_room c6 p (by rw [e37]; exact q))) cvX3_copyMember lkX3_61 (by assumption) rfl rfl (Nat.le_of_ble_eq_true rfl) (hI.fit (Nat.le_of_ble_eq_true rfl) (by omega) (by omega)) dX3_copyMembers_37 (fun sh37 rf37 mem37 hx37 => ?_)
          refine g_iinc hC dX3_copyMembers_40 rfl ?_
          dsimp only [List.set]
          refine g_goto (tgt := 12) hC dX3_copyMembers_43 (by decide) ?_
          first
          | (have e5 : x1 = F + K - 1 := by omega
             have e6 : x7 = F := by omega
             subst e5 e6
             have := J12 K x7 sh rf mem ms la l0 l1 l2 rfl (by omega) (LbN.rf0 hO9 hv9) hroom eN (Nat.le_refl _)
             rw [Nat.sub_self] at this
             exact this)
          | (obtain ⟨ja, j0, j1, j2, hN⟩ := hx37
             have := ih (own + 1) sh37 rf37 mem37 _ ja j0 j1 j2 (by omega) (by omega) (LbN.trans ⟨c3, c4, c9, c10⟩ hN) st c7 (by omega)
             rw [show ∀ z : Nat, ns.length ≤ z → 4 * (z - ms.length) = 4 * (ns.length - ms.length) + 4 * (z - ns.length) by intro z hz; omega, show ∀ z : Nat, ns.length ≤ z → 364 * (z - ms.length) = 364 * (ns.length - ms.length) + 364 * (z - ns.length) by intro z hz; omega] at this
             exact this; exact l1; exact l1)
        · refine g_iload hC dX3_copyMembers_30 rfl ?_
          refine g_goto (tgt := 37) hC dX3_copyMembers_32 (by decide) ?_
          first | have e37 : tn w own = own := by rw [tn, if_pos (by omega)] | have e37 : tn w own = w := by rw [tn, if_neg (by omega)]
          have st := frs_step (rp := rp) c6
          rw [cpN_tn] at c7
          rw [e37] at l1 l2 st c7
          refine g_VU hC (kX3_copyMember (gl X) (gD X) (gac X) a a0 a1 a2 ka k0 k1 k2 rp ns f own t _ c3 c4 i_p ⟨by omega, by omega⟩ hto (by omega) (fun p q => frs_room c6 p (by rw [e37]; exact q))) cvX3_copyMember lkX3_61 (by assumption) rfl rfl (Nat.le_of_ble_eq_true rfl) (hI.fit (Nat.le_of_ble_eq_true rfl) (by omega) (by omega)) dX3_copyMembers_37 (fun sh37 rf37 mem37 hx37 => ?_)
          refine g_iinc hC dX3_copyMembers_40 rfl ?_
          dsimp only [List.set]
          refine g_goto (tgt := 12) hC dX3_copyMembers_43 (by decide) ?_
          first
          | (have e5 : x1 = F + K - 1 := by omega
             have e6 : x7 = F := by omega
             subst e5 e6
             have := J12 K x7 sh rf mem ms la l0 l1 l2 rfl (by omega) (LbN.rf0 hO9 hv9) hroom eN (Nat.le_refl _)
             rw [Nat.sub_self] at this
             exact this)
          | (obtain ⟨ja, j0, j1, j2, hN⟩ := hx37
             have := ih (own + 1) sh37 rf37 mem37 _ ja j0 j1 j2 (by omega) (by omega) (LbN.trans ⟨c3, c4, c9, c10⟩ hN) st c7 (by omega)
             rw [show ∀ z : Nat, ns.length ≤ z → 4 * (z - ms.length) = 4 * (ns.length - ms.length) + 4 * (z - ns.length) by intro z hz; omega, show ∀ z : Nat, ns.length ≤ z → 364 * (z - ms.length) = 364 * (ns.length - ms.length) + 364 * (z - ns.length) by intro z hz; omega] at this
             exact this; exact l1; exact l1)
  refine g_iload_n hC dX3_copyMembers_0 rfl ?_
  refine g_SP hC (kX3_lastName (gl X) (gD X) (gac X) n ⟨by omega, by omega⟩) csX3_lastName lkX3_54 rfl rfl (Nat.le_of_ble_eq_true rfl) (hI.fit (Nat.le_of_ble_eq_true rfl) (Nat.zero_le _) (Nat.zero_le _)) dX3_copyMembers_1 (fun x1 hx1 => ?_)
  refine g_istore hC dX3_copyMembers_4 (Nat.le_of_ble_eq_true rfl) ?_
  dsimp only [List.set]
  refine g_iload_n hC dX3_copyMembers_6 rfl ?_
  refine g_SP hC (kX3_firstName (gl X) (gD X) (gac X) n ⟨by omega, by omega⟩) csX3_firstName lkX3_58 rfl rfl (Nat.le_of_ble_eq_true rfl) (hI.fit (Nat.le_of_ble_eq_true rfl) (Nat.zero_le _) (Nat.zero_le _)) dX3_copyMembers_7 (fun x7 hx7 => ?_)
  refine g_istore hC dX3_copyMembers_10 (Nat.le_of_ble_eq_true rfl) ?_
  dsimp only [List.set]
  first
  | (have e5 : x1 = F + K - 1 := by omega
     have e6 : x7 = F := by omega
     subst e5 e6
     have := J12 K x7 sh rf mem ms la l0 l1 l2 rfl (by omega) (LbN.rf0 hO9 hv9) hroom eN (Nat.le_refl _)
     rw [Nat.sub_self] at this
     exact this)
  | (obtain ⟨ja, j0, j1, j2, hN⟩ := hx37
     have := ih (own + 1) sh37 rf37 mem37 _ ja j0 j1 j2 (by omega) (by omega) (LbN.trans ⟨c3, c4, c9, c10⟩ hN) st c7 (by omega)
     rw [show ∀ z : Nat, ns.length ≤ z → 4 * (z - ms.length) = 4 * (ns.length - ms.length) + 4 * (z - ns.length) by intro z hz; omega, show ∀ z : Nat, ns.length ≤ z → 364 * (z - ms.length) = 364 * (ns.length - ms.length) + 364 * (z - ns.length) by intro z hz; omega] at this
     exact this; exact l1; exact l1)
