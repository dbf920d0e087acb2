set_option maxHeartbeats 4000000 in
set_option maxRecDepth 100000 in
theorem law_c8 {X : gX} (hC : gC X cL_law RL) (hR : gRm X = room_1) {b L : Nat} {xs : Nat → Int32} (hB : gScr X b L xs) (hL : L ≤ 2560) {G : Nat → Prop} {sh : Nat → Nat × Nat} {rf : Nat → Nat → Option Nat} {mem : Nat → Nat → Int} {x m o : Nat} {A B : Nat → Nat} {rp ex ar : List Int} {ms : List (Option MemT)} {ss : List (Option SetT)} {ch : Lns} {ds : Dfs} {lk : Nat} {g y z : Int} (hS : LSt G sh rf mem x m o A B rp ms ss ch ds lk ex ar g y z) {i cells slots : Nat} (hi : (i : Int) + 5 ≤ L) (hcs : cells ≤ 600000) (hsl : slots ≤ 7200000) {o5 o6 : Option Value} (hK : ∀ (sh1 : Nat → Nat × Nat) (rf1 : Nat → Nat → Option Nat) (mem1 : Nat → Nat → Int) (cells1 slots1 : Nat) (B1 : Nat → Nat) (rp1 ex1 ar1 : List Int) (ms1 : List (Option MemT)) (ss1 : List (Option SetT)) (ch1 : Lns) (ds1 : Dfs) (lk1 : Nat) (g1 y1 z1 : Int) o5 o6, LSt G sh1 rf1 mem1 x m o A B1 rp1 ms1 ss1 ch1 ds1 lk1 ex1 ar1 g1 y1 z1 → cells1 + 4 * ms.length ≤ cells + 4 * ms1.length + 10 → slots1 + 364 * ms.length ≤ slots + 364 * ms1.length + 1000 → gG X sh1 rf1 mem1 cells1 slots1 1205 [some (.ref b), some (.ref x), some (.ref m), some (.ref o), some (.int (iI i)), o5, o6] []) : gG X sh rf mem cells slots 510 [some (.ref b), some (.ref x), some (.ref m), some (.ref o), some (.int (iI i)), o5, o6] [] := by
  have hS9 := hS
  obtain ⟨⟨la, l0, l1, l2, sa, ra, hW⟩, hM, hV, hG, so, hI, hmo, hbo⟩ := hS
  have ho := hW.1.1
  obtain ⟨kR, kM, kS, kL, kD, klk, kE1, kE2, kA, kT⟩ := hW.ok
  have kC := hI.okC kL
  have kE := hI.2.1
  have kAr := hI.2.2
  obtain ⟨a1, ea1⟩ : ∃ a, a = (xs ((i : Int) + 1).toNat).toInt := ⟨_, rfl⟩
  have r1 : inR a1 := by rw [ea1]; exact inR_of _
  have t1 : -2147483648 ≤ a1 ∧ a1 < 2147483648 := r1
  obtain ⟨a2, ea2⟩ : ∃ a, a = (xs ((i : Int) + 2).toNat).toInt := ⟨_, rfl⟩
  have r2 : inR a2 := by rw [ea2]; exact inR_of _
  have t2 : -2147483648 ≤ a2 ∧ a2 < 2147483648 := r2
  obtain ⟨a3, ea3⟩ : ∃ a, a = (xs ((i : Int) + 3).toNat).toInt := ⟨_, rfl⟩
  have r3 : inR a3 := by rw [ea3]; exact inR_of _
  have t3 : -2147483648 ≤ a3 ∧ a3 < 2147483648 := r3
  obtain ⟨a4, ea4⟩ : ∃ a, a = (xs ((i : Int) + 4).toNat).toInt := ⟨_, rfl⟩
  have r4 : inR a4 := by rw [ea4]; exact inR_of _
  have t4 : -2147483648 ≤ a4 ∧ a4 < 2147483648 := r4
  refine g_aload_n hC dL_law_510 rfl ?_
  refine g_aload_n hC dL_law_511 rfl ?_
  refine g_iload hC dL_law_512 rfl ?_
  refine g_iconst hC dL_law_514 ?_
  refine g_iadd hC dL_law_515 ?_
  refine g_sld hC hB (by omega) (by omega) hL dL_law_516 ?_
  rw [← ea1]
  refine g_aload_n hC dL_law_517 rfl ?_
  refine g_iload hC dL_law_518 rfl ?_
  refine g_iconst hC dL_law_520 ?_
  refine g_iadd hC dL_law_521 ?_
  refine g_sld hC hB (by omega) (by omega) hL dL_law_522 ?_
  rw [← ea2]
  refine g_VU hC (kX9_change (gl X) (gD X) (gac X) G x A la l0 l1 l2 sa ra rp ex ar ms ss ch ds lk g y z a1 a2 hW r1 r2) cvX9_change lkL_56 (by assumption) rfl rfl (Nat.le_of_ble_eq_true rfl) (gfitL hR (by omega) (by omega) (by omega)) dL_law_523 (fun sh523 rf523 mem523 hx523 => ?_)
  obtain ⟨ys, P1, w9⟩ := hx523
  obtain ⟨q1, q2, q3⟩ := hS9.mid w9.2
  refine g_re q1 (fun B1 hM1 hB1 hj1 => ?_)
  have hV1 := q2 B1 hB1
  have mo1 := hM1.1
  refine g_aload_n hC dL_law_526 rfl ?_
  refine g_aload_n hC dL_law_527 rfl ?_
  refine g_iload hC dL_law_528 rfl ?_
  refine g_iconst hC dL_law_530 ?_
  refine g_iadd hC dL_law_531 ?_
  refine g_sld hC hB (by omega) (by omega) hL dL_law_532 ?_
  rw [← ea1]
  refine g_aload_n hC dL_law_533 rfl ?_
  refine g_iload hC dL_law_534 rfl ?_
  refine g_iconst hC dL_law_536 ?_
  refine g_iadd hC dL_law_537 ?_
  refine g_sld hC hB (by omega) (by omega) hL dL_law_538 ?_
  rw [← ea2]
  refine g_VV hC (kX10_change (gl X) (gD X) (gac X) m B1 rp ex ar ms ss ch ds lk g y z a1 a2 hM1 hV1 kC r1 r2) cvX10_change lkL_60 (by assumption) rfl rfl (Nat.le_of_ble_eq_true rfl) (gfitL hR (by omega) (by omega) (by omega)) dL_law_539 (fun mem539 hx539 => ?_)
  obtain ⟨ys', P2, v2, c2⟩ := hx539
  obtain rfl := chR_one P1 P2
  refine g_goto (tgt := 1205) hC dL_law_542 (by decide) ?_
  exact hK _ _ _ _ _ B1 _ _ _ _ _ _ _ _ _ _ _ _ _ (hS9.next w9 hM1 hB1 hj1 v2 c2 (hI.chg P1)) (by omega) (by omega)
set_option maxHeartbeats 4000000 in
set_option maxRecDepth 100000 in
theorem law_c9 {X : gX} (hC : gC X cL_law RL) (hR : gRm X = room_1) {b L : Nat} {xs : Nat → Int32} (hB : gScr X b L xs) (hL : L ≤ 2560) {G : Nat → Prop} {sh : Nat → Nat × Nat} {rf : Nat → Nat → Option Nat} {mem : Nat → Nat → Int} {x m o : Nat} {A B : Nat → Nat} {rp ex ar : List Int} {ms : List (Option MemT)} {ss : List (Option SetT)} {ch : Lns} {ds : Dfs} {lk : Nat} {g y z : Int} (hS : LSt G sh rf mem x m o A B rp ms ss ch ds lk ex ar g y z) {i cells slots : Nat} (hi : (i : Int) + 5 ≤ L) (hcs : cells ≤ 600000) (hsl : slots ≤ 7200000) {o5 o6 : Option Value} (hK : ∀ (sh1 : Nat → Nat × Nat) (rf1 : Nat → Nat → Option Nat) (mem1 : Nat → Nat → Int) (cells1 slots1 : Nat) (B1 : Nat → Nat) (rp1 ex1 ar1 : List Int) (ms1 : List (Option MemT)) (ss1 : List (Option SetT)) (ch1 : Lns) (ds1 : Dfs) (lk1 : Nat) (g1 y1 z1 : Int) o5 o6, LSt G sh1 rf1 mem1 x m o A B1 rp1 ms1 ss1 ch1 ds1 lk1 ex1 ar1 g1 y1 z1 → cells1 + 4 * ms.length ≤ cells + 4 * ms1.length + 10 → slots1 + 364 * ms.length ≤ slots + 364 * ms1.length + 1000 → gG X sh1 rf1 mem1 cells1 slots1 1205 [some (.ref b), some (.ref x), some (.ref m), some (.ref o), some (.int (iI i)), o5, o6] []) : gG X sh rf mem cells slots 545 [some (.ref b), some (.ref x), some (.ref m), some (.ref o), some (.int (iI i)), o5, o6] [] := by
  have hS9 := hS
  obtain ⟨⟨la, l0, l1, l2, sa, ra, hW⟩, hM, hV, hG, so, hI, hmo, hbo⟩ := hS
  have ho := hW.1.1
  obtain ⟨kR, kM, kS, kL, kD, klk, kE1, kE2, kA, kT⟩ := hW.ok
  have kC := hI.okC kL
  have kE := hI.2.1
  have kAr := hI.2.2
  obtain ⟨a1, ea1⟩ : ∃ a, a = (xs ((i : Int) + 1).toNat).toInt := ⟨_, rfl⟩
  have r1 : inR a1 := by rw [ea1]; exact inR_of _
  have t1 : -2147483648 ≤ a1 ∧ a1 < 2147483648 := r1
  obtain ⟨a2, ea2⟩ : ∃ a, a = (xs ((i : Int) + 2).toNat).toInt := ⟨_, rfl⟩
  have r2 : inR a2 := by rw [ea2]; exact inR_of _
  have t2 : -2147483648 ≤ a2 ∧ a2 < 2147483648 := r2
  obtain ⟨a3, ea3⟩ : ∃ a, a = (xs ((i : Int) + 3).toNat).toInt := ⟨_, rfl⟩
  have r3 : inR a3 := by rw [ea3]; exact inR_of _
  have t3 : -2147483648 ≤ a3 ∧ a3 < 2147483648 := r3
  obtain ⟨a4, ea4⟩ : ∃ a, a = (xs ((i : Int) + 4).toNat).toInt := ⟨_, rfl⟩
  have r4 : inR a4 := by rw [ea4]; exact inR_of _
  have t4 : -2147483648 ≤ a4 ∧ a4 < 2147483648 := r4
  refine g_aload_n hC dL_law_545 rfl ?_
  refine g_aload_n hC dL_law_546 rfl ?_
  refine g_iload hC dL_law_547 rfl ?_
  refine g_iconst hC dL_law_549 ?_
  refine g_iadd hC dL_law_550 ?_
  refine g_sld hC hB (by omega) (by omega) hL dL_law_551 ?_
  rw [← ea1]
  refine g_VA hC (kX9_update (gl X) (gD X) (gac X) G x A la l0 l1 l2 sa ra rp ex ar ms ss ch ds lk g y z a1 hW r1 hI.1.2) cvX9_update lkL_61 (by assumption) rfl rfl (Nat.le_of_ble_eq_true rfl) (gfitL hR (by omega) (by omega) (by omega)) dL_law_552 (fun x552 sh552 rf552 mem552 hx552 => ?_)
  obtain ⟨hr9, w9⟩ := hx552
  subst hr9
  obtain ⟨q1, q2, q3⟩ := hS9.mid w9.2
  refine g_re q1 (fun B1 hM1 hB1 hj1 => ?_)
  have hV1 := q2 B1 hB1
  have mo1 := hM1.1
  refine g_aload_n hC dL_law_555 rfl ?_
  refine g_aload_n hC dL_law_556 rfl ?_
  refine g_iload hC dL_law_557 rfl ?_
  refine g_iconst hC dL_law_559 ?_
  refine g_iadd hC dL_law_560 ?_
  refine g_sld hC hB (by omega) (by omega) hL dL_law_561 ?_
  rw [← ea1]
  refine g_VM hC (kX10_update (gl X) (gD X) (gac X) m B1 rp ex ar ms ss ch ds lk g y z a1 hM1 hV1 kM kC kL r1) cvX10_update lkL_64 (by assumption) rfl rfl (Nat.le_of_ble_eq_true rfl) (gfitL hR (by omega) (by omega) (by omega)) dL_law_562 (fun x562 mem562 hx562 => ?_)
  obtain ⟨hr8, v2, c2⟩ := hx562
  subst hr8
  refine g_ceq (tgt := 1205) hC dL_law_565 (by decide) ?_
  have ml := updS_len (ms := ms) (ch := ch) a1
  exact hK _ _ _ _ _ B1 _ _ _ _ _ _ _ _ _ _ _ _ _ (hS9.next w9 hM1 hB1 hj1 v2 c2 hI.upd) (by omega) (by omega)
set_option maxHeartbeats 4000000 in
set_option maxRecDepth 100000 in
theorem law_c10 {X : gX} (hC : gC X cL_law RL) (hR : gRm X = room_1) {b L : Nat} {xs : Nat → Int32} (hB : gScr X b L xs) (hL : L ≤ 2560) {G : Nat → Prop} {sh : Nat → Nat × Nat} {rf : Nat → Nat → Option Nat} {mem : Nat → Nat → Int} {x m o : Nat} {A B : Nat → Nat} {rp ex ar : List Int} {ms : List (Option MemT)} {ss : List (Option SetT)} {ch : Lns} {ds : Dfs} {lk : Nat} {g y z : Int} (hS : LSt G sh rf mem x m o A B rp ms ss ch ds lk ex ar g y z) {i cells slots : Nat} (hi : (i : Int) + 5 ≤ L) (hcs : cells ≤ 600000) (hsl : slots ≤ 7200000) {o5 o6 : Option Value} (hK : ∀ (sh1 : Nat → Nat × Nat) (rf1 : Nat → Nat → Option Nat) (mem1 : Nat → Nat → Int) (cells1 slots1 : Nat) (B1 : Nat → Nat) (rp1 ex1 ar1 : List Int) (ms1 : List (Option MemT)) (ss1 : List (Option SetT)) (ch1 : Lns) (ds1 : Dfs) (lk1 : Nat) (g1 y1 z1 : Int) o5 o6, LSt G sh1 rf1 mem1 x m o A B1 rp1 ms1 ss1 ch1 ds1 lk1 ex1 ar1 g1 y1 z1 → cells1 + 4 * ms.length ≤ cells + 4 * ms1.length + 10 → slots1 + 364 * ms.length ≤ slots + 364 * ms1.length + 1000 → gG X sh1 rf1 mem1 cells1 slots1 1205 [some (.ref b), some (.ref x), some (.ref m), some (.ref o), some (.int (iI i)), o5, o6] []) : gG X sh rf mem cells slots 570 [some (.ref b), some (.ref x), some (.ref m), some (.ref o), some (.int (iI i)), o5, o6] [] := by
  have hS9 := hS
  obtain ⟨⟨la, l0, l1, l2, sa, ra, hW⟩, hM, hV, hG, so, hI, hmo, hbo⟩ := hS
  have ho := hW.1.1
  obtain ⟨kR, kM, kS, kL, kD, klk, kE1, kE2, kA, kT⟩ := hW.ok
  have kC := hI.okC kL
  have kE := hI.2.1
  have kAr := hI.2.2
  obtain ⟨a1, ea1⟩ : ∃ a, a = (xs ((i : Int) + 1).toNat).toInt := ⟨_, rfl⟩
  have r1 : inR a1 := by rw [ea1]; exact inR_of _
  have t1 : -2147483648 ≤ a1 ∧ a1 < 2147483648 := r1
  obtain ⟨a2, ea2⟩ : ∃ a, a = (xs ((i : Int) + 2).toNat).toInt := ⟨_, rfl⟩
  have r2 : inR a2 := by rw [ea2]; exact inR_of _
  have t2 : -2147483648 ≤ a2 ∧ a2 < 2147483648 := r2
  obtain ⟨a3, ea3⟩ : ∃ a, a = (xs ((i : Int) + 3).toNat).toInt := ⟨_, rfl⟩
  have r3 : inR a3 := by rw [ea3]; exact inR_of _
  have t3 : -2147483648 ≤ a3 ∧ a3 < 2147483648 := r3
  obtain ⟨a4, ea4⟩ : ∃ a, a = (xs ((i : Int) + 4).toNat).toInt := ⟨_, rfl⟩
  have r4 : inR a4 := by rw [ea4]; exact inR_of _
  have t4 : -2147483648 ≤ a4 ∧ a4 < 2147483648 := r4
  rcases (show a2 = 0 ∨ a2 ≠ 0 by omega) with hz | hz
  · refine g_aload_n hC dL_law_570 rfl ?_
    refine g_aload_n hC dL_law_571 rfl ?_
    refine g_iload hC dL_law_572 rfl ?_
    refine g_iconst hC dL_law_574 ?_
    refine g_iadd hC dL_law_575 ?_
    refine g_sld hC hB (by omega) (by omega) hL dL_law_576 ?_
    rw [← ea1]
    refine g_aload_n hC dL_law_577 rfl ?_
    refine g_iload hC dL_law_578 rfl ?_
    refine g_iconst hC dL_law_580 ?_
    refine g_iadd hC dL_law_581 ?_
    refine g_sld hC hB (by omega) (by omega) hL dL_law_582 ?_
    rw [← ea2]
    refine g_if_eq (tgt := 590) hC dL_law_583 (by decide) ⟨by omega, by omega⟩ (fun h583 => ?_) (fun h583 => ?_)
    · refine g_iconst hC dL_law_590 ?_
      refine g_VA hC (kX9_define (gl X) (gD X) (gac X) G x A la l0 l1 l2 sa ra rp ex ar ms ss ch ds lk g y z a1 _ hW r1 (by omega)) cvX9_define lkL_65 (by assumption) rfl rfl (Nat.le_of_ble_eq_true rfl) (gfitL hR (by omega) (by omega) (by omega)) dL_law_591 (fun x591 sh591 rf591 mem591 hx591 => ?_)
      obtain ⟨hr9, w9⟩ := hx591
      subst hr9
      obtain ⟨q1, q2, q3⟩ := hS9.mid w9.2
      refine g_re q1 (fun B1 hM1 hB1 hj1 => ?_)
      have hV1 := q2 B1 hB1
      have mo1 := hM1.1
      refine g_aload_n hC dL_law_594 rfl ?_
      refine g_aload_n hC dL_law_595 rfl ?_
      refine g_iload hC dL_law_596 rfl ?_
      refine g_iconst hC dL_law_598 ?_
      refine g_iadd hC dL_law_599 ?_
      refine g_sld hC hB (by omega) (by omega) hL dL_law_600 ?_
      rw [← ea1]
      refine g_aload_n hC dL_law_601 rfl ?_
      refine g_iload hC dL_law_602 rfl ?_
      refine g_iconst hC dL_law_604 ?_
      refine g_iadd hC dL_law_605 ?_
      refine g_sld hC hB (by omega) (by omega) hL dL_law_606 ?_
      rw [← ea2]
      refine g_if_eq (tgt := 614) hC dL_law_607 (by decide) ⟨by omega, by omega⟩ (fun h607 => ?_) (fun h607 => ?_)
      · refine g_iconst hC dL_law_614 ?_
        refine g_VM hC (kX10_define (gl X) (gD X) (gac X) m B1 rp ex ar ms ss ch ds lk g y z a1 _ hM1 hV1 kS r1 (by omega)) cvX10_define lkL_69 (by assumption) rfl rfl (Nat.le_of_ble_eq_true rfl) (gfitL hR (by omega) (by omega) (by omega)) dL_law_615 (fun x615 mem615 hx615 => ?_)
        obtain ⟨hr8, v2, c2⟩ := hx615
        subst hr8
        refine g_ceq (tgt := 1205) hC dL_law_618 (by decide) ?_
        exact hK _ _ _ _ _ B1 _ _ _ _ _ _ _ _ _ _ _ _ _ (hS9.next w9 hM1 hB1 hj1 v2 c2 hI) (by omega) (by omega)
      · exfalso; omega
    · exfalso; omega
  · refine g_aload_n hC dL_law_570 rfl ?_
    refine g_aload_n hC dL_law_571 rfl ?_
    refine g_iload hC dL_law_572 rfl ?_
    refine g_iconst hC dL_law_574 ?_
    refine g_iadd hC dL_law_575 ?_
    refine g_sld hC hB (by omega) (by omega) hL dL_law_576 ?_
    rw [← ea1]
    refine g_aload_n hC dL_law_577 rfl ?_
    refine g_iload hC dL_law_578 rfl ?_
    refine g_iconst hC dL_law_580 ?_
    refine g_iadd hC dL_law_581 ?_
    refine g_sld hC hB (by omega) (by omega) hL dL_law_582 ?_
    rw [← ea2]
    refine g_if_eq (tgt := 590) hC dL_law_583 (by decide) ⟨by omega, by omega⟩ (fun h583 => ?_) (fun h583 => ?_)
    · exfalso; omega
    · refine g_iconst hC dL_law_586 ?_
      refine g_goto (tgt := 591) hC dL_law_587 (by decide) ?_
      refine g_VA hC (kX9_define (gl X) (gD X) (gac X) G x A la l0 l1 l2 sa ra rp ex ar ms ss ch ds lk g y z a1 _ hW r1 (by omega)) cvX9_define lkL_65 (by assumption) rfl rfl (Nat.le_of_ble_eq_true rfl) (gfitL hR (by omega) (by omega) (by omega)) dL_law_591 (fun x591 sh591 rf591 mem591 hx591 => ?_)
      obtain ⟨hr9, w9⟩ := hx591
      subst hr9
      obtain ⟨q1, q2, q3⟩ := hS9.mid w9.2
      refine g_re q1 (fun B1 hM1 hB1 hj1 => ?_)
      have hV1 := q2 B1 hB1
      have mo1 := hM1.1
      refine g_aload_n hC dL_law_594 rfl ?_
      refine g_aload_n hC dL_law_595 rfl ?_
      refine g_iload hC dL_law_596 rfl ?_
      refine g_iconst hC dL_law_598 ?_
      refine g_iadd hC dL_law_599 ?_
      refine g_sld hC hB (by omega) (by omega) hL dL_law_600 ?_
      rw [← ea1]
      refine g_aload_n hC dL_law_601 rfl ?_
      refine g_iload hC dL_law_602 rfl ?_
      refine g_iconst hC dL_law_604 ?_
      refine g_iadd hC dL_law_605 ?_
      refine g_sld hC hB (by omega) (by omega) hL dL_law_606 ?_
      rw [← ea2]
      refine g_if_eq (tgt := 614) hC dL_law_607 (by decide) ⟨by omega, by omega⟩ (fun h607 => ?_) (fun h607 => ?_)
      · exfalso; omega
      · refine g_iconst hC dL_law_610 ?_
        refine g_goto (tgt := 615) hC dL_law_611 (by decide) ?_
        refine g_VM hC (kX10_define (gl X) (gD X) (gac X) m B1 rp ex ar ms ss ch ds lk g y z a1 _ hM1 hV1 kS r1 (by omega)) cvX10_define lkL_69 (by assumption) rfl rfl (Nat.le_of_ble_eq_true rfl) (gfitL hR (by omega) (by omega) (by omega)) dL_law_615 (fun x615 mem615 hx615 => ?_)
        obtain ⟨hr8, v2, c2⟩ := hx615
        subst hr8
        refine g_ceq (tgt := 1205) hC dL_law_618 (by decide) ?_
        exact hK _ _ _ _ _ B1 _ _ _ _ _ _ _ _ _ _ _ _ _ (hS9.next w9 hM1 hB1 hj1 v2 c2 hI) (by omega) (by omega)
set_option maxHeartbeats 4000000 in
set_option maxRecDepth 100000 in
theorem law_c11 {X : gX} (hC : gC X cL_law RL) (hR : gRm X = room_1) {b L : Nat} {xs : Nat → Int32} (hB : gScr X b L xs) (hL : L ≤ 2560) {G : Nat → Prop} {sh : Nat → Nat × Nat} {rf : Nat → Nat → Option Nat} {mem : Nat → Nat → Int} {x m o : Nat} {A B : Nat → Nat} {rp ex ar : List Int} {ms : List (Option MemT)} {ss : List (Option SetT)} {ch : Lns} {ds : Dfs} {lk : Nat} {g y z : Int} (hS : LSt G sh rf mem x m o A B rp ms ss ch ds lk ex ar g y z) {i cells slots : Nat} (hi : (i : Int) + 5 ≤ L) (hcs : cells ≤ 600000) (hsl : slots ≤ 7200000) {o5 o6 : Option Value} (hK : ∀ (sh1 : Nat → Nat × Nat) (rf1 : Nat → Nat → Option Nat) (mem1 : Nat → Nat → Int) (cells1 slots1 : Nat) (B1 : Nat → Nat) (rp1 ex1 ar1 : List Int) (ms1 : List (Option MemT)) (ss1 : List (Option SetT)) (ch1 : Lns) (ds1 : Dfs) (lk1 : Nat) (g1 y1 z1 : Int) o5 o6, LSt G sh1 rf1 mem1 x m o A B1 rp1 ms1 ss1 ch1 ds1 lk1 ex1 ar1 g1 y1 z1 → cells1 + 4 * ms.length ≤ cells + 4 * ms1.length + 10 → slots1 + 364 * ms.length ≤ slots + 364 * ms1.length + 1000 → gG X sh1 rf1 mem1 cells1 slots1 1205 [some (.ref b), some (.ref x), some (.ref m), some (.ref o), some (.int (iI i)), o5, o6] []) : gG X sh rf mem cells slots 623 [some (.ref b), some (.ref x), some (.ref m), some (.ref o), some (.int (iI i)), o5, o6] [] := by
  have hS9 := hS
  obtain ⟨⟨la, l0, l1, l2, sa, ra, hW⟩, hM, hV, hG, so, hI, hmo, hbo⟩ := hS
  have ho := hW.1.1
  obtain ⟨kR, kM, kS, kL, kD, klk, kE1, kE2, kA, kT⟩ := hW.ok
  have kC := hI.okC kL
  have kE := hI.2.1
  have kAr := hI.2.2
  obtain ⟨a1, ea1⟩ : ∃ a, a = (xs ((i : Int) + 1).toNat).toInt := ⟨_, rfl⟩
  have r1 : inR a1 := by rw [ea1]; exact inR_of _
  have t1 : -2147483648 ≤ a1 ∧ a1 < 2147483648 := r1
  obtain ⟨a2, ea2⟩ : ∃ a, a = (xs ((i : Int) + 2).toNat).toInt := ⟨_, rfl⟩
  have r2 : inR a2 := by rw [ea2]; exact inR_of _
  have t2 : -2147483648 ≤ a2 ∧ a2 < 2147483648 := r2
  obtain ⟨a3, ea3⟩ : ∃ a, a = (xs ((i : Int) + 3).toNat).toInt := ⟨_, rfl⟩
  have r3 : inR a3 := by rw [ea3]; exact inR_of _
  have t3 : -2147483648 ≤ a3 ∧ a3 < 2147483648 := r3
  obtain ⟨a4, ea4⟩ : ∃ a, a = (xs ((i : Int) + 4).toNat).toInt := ⟨_, rfl⟩
  have r4 : inR a4 := by rw [ea4]; exact inR_of _
  have t4 : -2147483648 ≤ a4 ∧ a4 < 2147483648 := r4
  refine g_aload_n hC dL_law_623 rfl ?_
  refine g_aload_n hC dL_law_624 rfl ?_
  refine g_iload hC dL_law_625 rfl ?_
  refine g_iconst hC dL_law_627 ?_
  refine g_iadd hC dL_law_628 ?_
  refine g_sld hC hB (by omega) (by omega) hL dL_law_629 ?_
  rw [← ea1]
  refine g_aload_n hC dL_law_630 rfl ?_
  refine g_iload hC dL_law_631 rfl ?_
  refine g_iconst hC dL_law_633 ?_
  refine g_iadd hC dL_law_634 ?_
  refine g_sld hC hB (by omega) (by omega) hL dL_law_635 ?_
  rw [← ea2]
  refine g_VA hC (kX9_record (gl X) (gD X) (gac X) G x A la l0 l1 l2 sa ra rp ex ar ms ss ch ds lk g y z a1 a2 hW r1) cvX9_record lkL_70 (by assumption) rfl rfl (Nat.le_of_ble_eq_true rfl) (gfitL hR (by omega) (by omega) (by omega)) dL_law_636 (fun x636 sh636 rf636 mem636 hx636 => ?_)
  obtain ⟨hr9, w9⟩ := hx636
  subst hr9
  obtain ⟨q1, q2, q3⟩ := hS9.mid w9.2
  refine g_re q1 (fun B1 hM1 hB1 hj1 => ?_)
  have hV1 := q2 B1 hB1
  have mo1 := hM1.1
  refine g_aload_n hC dL_law_639 rfl ?_
  refine g_aload_n hC dL_law_640 rfl ?_
  refine g_iload hC dL_law_641 rfl ?_
  refine g_iconst hC dL_law_643 ?_
  refine g_iadd hC dL_law_644 ?_
  refine g_sld hC hB (by omega) (by omega) hL dL_law_645 ?_
  rw [← ea1]
  refine g_aload_n hC dL_law_646 rfl ?_
  refine g_iload hC dL_law_647 rfl ?_
  refine g_iconst hC dL_law_649 ?_
  refine g_iadd hC dL_law_650 ?_
  refine g_sld hC hB (by omega) (by omega) hL dL_law_651 ?_
  rw [← ea2]
  refine g_VM hC (kX10_record (gl X) (gD X) (gac X) m B1 rp ex ar ms ss ch ds lk g y z a1 a2 hM1 hV1 kS r1) cvX10_record lkL_73 (by assumption) rfl rfl (Nat.le_of_ble_eq_true rfl) (gfitL hR (by omega) (by omega) (by omega)) dL_law_652 (fun x652 mem652 hx652 => ?_)
  obtain ⟨hr8, v2, c2⟩ := hx652
  subst hr8
  refine g_ceq (tgt := 1205) hC dL_law_655 (by decide) ?_
  exact hK _ _ _ _ _ B1 _ _ _ _ _ _ _ _ _ _ _ _ _ (hS9.next w9 hM1 hB1 hj1 v2 c2 hI) (by omega) (by omega)
set_option maxHeartbeats 4000000 in
set_option maxRecDepth 100000 in
theorem law_c12 {X : gX} (hC : gC X cL_law RL) (hR : gRm X = room_1) {b L : Nat} {xs : Nat → Int32} (hB : gScr X b L xs) (hL : L ≤ 2560) {G : Nat → Prop} {sh : Nat → Nat × Nat} {rf : Nat → Nat → Option Nat} {mem : Nat → Nat → Int} {x m o : Nat} {A B : Nat → Nat} {rp ex ar : List Int} {ms : List (Option MemT)} {ss : List (Option SetT)} {ch : Lns} {ds : Dfs} {lk : Nat} {g y z : Int} (hS : LSt G sh rf mem x m o A B rp ms ss ch ds lk ex ar g y z) {i cells slots : Nat} (hi : (i : Int) + 5 ≤ L) (hcs : cells ≤ 600000) (hsl : slots ≤ 7200000) {o5 o6 : Option Value} (hK : ∀ (sh1 : Nat → Nat × Nat) (rf1 : Nat → Nat → Option Nat) (mem1 : Nat → Nat → Int) (cells1 slots1 : Nat) (B1 : Nat → Nat) (rp1 ex1 ar1 : List Int) (ms1 : List (Option MemT)) (ss1 : List (Option SetT)) (ch1 : Lns) (ds1 : Dfs) (lk1 : Nat) (g1 y1 z1 : Int) o5 o6, LSt G sh1 rf1 mem1 x m o A B1 rp1 ms1 ss1 ch1 ds1 lk1 ex1 ar1 g1 y1 z1 → cells1 + 4 * ms.length ≤ cells + 4 * ms1.length + 10 → slots1 + 364 * ms.length ≤ slots + 364 * ms1.length + 1000 → gG X sh1 rf1 mem1 cells1 slots1 1205 [some (.ref b), some (.ref x), some (.ref m), some (.ref o), some (.int (iI i)), o5, o6] []) : gG X sh rf mem cells slots 660 [some (.ref b), some (.ref x), some (.ref m), some (.ref o), some (.int (iI i)), o5, o6] [] := by
  have hS9 := hS
  obtain ⟨⟨la, l0, l1, l2, sa, ra, hW⟩, hM, hV, hG, so, hI, hmo, hbo⟩ := hS
  have ho := hW.1.1
  obtain ⟨kR, kM, kS, kL, kD, klk, kE1, kE2, kA, kT⟩ := hW.ok
  have kC := hI.okC kL
  have kE := hI.2.1
  have kAr := hI.2.2
  obtain ⟨a1, ea1⟩ : ∃ a, a = (xs ((i : Int) + 1).toNat).toInt := ⟨_, rfl⟩
  have r1 : inR a1 := by rw [ea1]; exact inR_of _
  have t1 : -2147483648 ≤ a1 ∧ a1 < 2147483648 := r1
  obtain ⟨a2, ea2⟩ : ∃ a, a = (xs ((i : Int) + 2).toNat).toInt := ⟨_, rfl⟩
  have r2 : inR a2 := by rw [ea2]; exact inR_of _
  have t2 : -2147483648 ≤ a2 ∧ a2 < 2147483648 := r2
  obtain ⟨a3, ea3⟩ : ∃ a, a = (xs ((i : Int) + 3).toNat).toInt := ⟨_, rfl⟩
  have r3 : inR a3 := by rw [ea3]; exact inR_of _
  have t3 : -2147483648 ≤ a3 ∧ a3 < 2147483648 := r3
  obtain ⟨a4, ea4⟩ : ∃ a, a = (xs ((i : Int) + 4).toNat).toInt := ⟨_, rfl⟩
  have r4 : inR a4 := by rw [ea4]; exact inR_of _
  have t4 : -2147483648 ≤ a4 ∧ a4 < 2147483648 := r4
  refine g_aload_n hC dL_law_660 rfl ?_
  refine g_aload_n hC dL_law_661 rfl ?_
  refine g_iload hC dL_law_662 rfl ?_
  refine g_iconst hC dL_law_664 ?_
  refine g_iadd hC dL_law_665 ?_
  refine g_sld hC hB (by omega) (by omega) hL dL_law_666 ?_
  rw [← ea1]
  refine g_VA hC (kX9_delete (gl X) (gD X) (gac X) G x A la l0 l1 l2 sa ra rp ex ar ms ss ch ds lk g y z a1 hW r1) cvX9_delete lkL_74 (by assumption) rfl rfl (Nat.le_of_ble_eq_true rfl) (gfitL hR (by omega) (by omega) (by omega)) dL_law_667 (fun x667 sh667 rf667 mem667 hx667 => ?_)
  obtain ⟨hr9, w9⟩ := hx667
  subst hr9
  obtain ⟨q1, q2, q3⟩ := hS9.mid w9.2
  refine g_re q1 (fun B1 hM1 hB1 hj1 => ?_)
  have hV1 := q2 B1 hB1
  have mo1 := hM1.1
  refine g_aload_n hC dL_law_670 rfl ?_
  refine g_aload_n hC dL_law_671 rfl ?_
  refine g_iload hC dL_law_672 rfl ?_
  refine g_iconst hC dL_law_674 ?_
  refine g_iadd hC dL_law_675 ?_
  refine g_sld hC hB (by omega) (by omega) hL dL_law_676 ?_
  rw [← ea1]
  refine g_VM hC (kX10_delete (gl X) (gD X) (gac X) m B1 rp ex ar ms ss ch ds lk g y z a1 hM1 hV1 kS kT r1) cvX10_delete lkL_77 (by assumption) rfl rfl (Nat.le_of_ble_eq_true rfl) (gfitL hR (by omega) (by omega) (by omega)) dL_law_677 (fun x677 mem677 hx677 => ?_)
  obtain ⟨hr8, v2, c2⟩ := hx677
  subst hr8
  refine g_ceq (tgt := 1205) hC dL_law_680 (by decide) ?_
  exact hK _ _ _ _ _ B1 _ _ _ _ _ _ _ _ _ _ _ _ _ (hS9.next w9 hM1 hB1 hj1 v2 c2 hI) (by omega) (by omega)
set_option maxHeartbeats 4000000 in
set_option maxRecDepth 100000 in
theorem law_c13 {X : gX} (hC : gC X cL_law RL) (hR : gRm X = room_1) {b L : Nat} {xs : Nat → Int32} (hB : gScr X b L xs) (hL : L ≤ 2560) {G : Nat → Prop} {sh : Nat → Nat × Nat} {rf : Nat → Nat → Option Nat} {mem : Nat → Nat → Int} {x m o : Nat} {A B : Nat → Nat} {rp ex ar : List Int} {ms : List (Option MemT)} {ss : List (Option SetT)} {ch : Lns} {ds : Dfs} {lk : Nat} {g y z : Int} (hS : LSt G sh rf mem x m o A B rp ms ss ch ds lk ex ar g y z) {i cells slots : Nat} (hi : (i : Int) + 5 ≤ L) (hcs : cells ≤ 600000) (hsl : slots ≤ 7200000) {o5 o6 : Option Value} (hK : ∀ (sh1 : Nat → Nat × Nat) (rf1 : Nat → Nat → Option Nat) (mem1 : Nat → Nat → Int) (cells1 slots1 : Nat) (B1 : Nat → Nat) (rp1 ex1 ar1 : List Int) (ms1 : List (Option MemT)) (ss1 : List (Option SetT)) (ch1 : Lns) (ds1 : Dfs) (lk1 : Nat) (g1 y1 z1 : Int) o5 o6, LSt G sh1 rf1 mem1 x m o A B1 rp1 ms1 ss1 ch1 ds1 lk1 ex1 ar1 g1 y1 z1 → cells1 + 4 * ms.length ≤ cells + 4 * ms1.length + 10 → slots1 + 364 * ms.length ≤ slots + 364 * ms1.length + 1000 → gG X sh1 rf1 mem1 cells1 slots1 1205 [some (.ref b), some (.ref x), some (.ref m), some (.ref o), some (.int (iI i)), o5, o6] []) : gG X sh rf mem cells slots 685 [some (.ref b), some (.ref x), some (.ref m), some (.ref o), some (.int (iI i)), o5, o6] [] := by
  have hS9 := hS
  obtain ⟨⟨la, l0, l1, l2, sa, ra, hW⟩, hM, hV, hG, so, hI, hmo, hbo⟩ := hS
  have ho := hW.1.1
  obtain ⟨kR, kM, kS, kL, kD, klk, kE1, kE2, kA, kT⟩ := hW.ok
  have kC := hI.okC kL
  have kE := hI.2.1
  have kAr := hI.2.2
  obtain ⟨a1, ea1⟩ : ∃ a, a = (xs ((i : Int) + 1).toNat).toInt := ⟨_, rfl⟩
  have r1 : inR a1 := by rw [ea1]; exact inR_of _
  have t1 : -2147483648 ≤ a1 ∧ a1 < 2147483648 := r1
  obtain ⟨a2, ea2⟩ : ∃ a, a = (xs ((i : Int) + 2).toNat).toInt := ⟨_, rfl⟩
  have r2 : inR a2 := by rw [ea2]; exact inR_of _
  have t2 : -2147483648 ≤ a2 ∧ a2 < 2147483648 := r2
  obtain ⟨a3, ea3⟩ : ∃ a, a = (xs ((i : Int) + 3).toNat).toInt := ⟨_, rfl⟩
  have r3 : inR a3 := by rw [ea3]; exact inR_of _
  have t3 : -2147483648 ≤ a3 ∧ a3 < 2147483648 := r3
  obtain ⟨a4, ea4⟩ : ∃ a, a = (xs ((i : Int) + 4).toNat).toInt := ⟨_, rfl⟩
  have r4 : inR a4 := by rw [ea4]; exact inR_of _
  have t4 : -2147483648 ≤ a4 ∧ a4 < 2147483648 := r4
  refine g_aload_n hC dL_law_685 rfl ?_
  refine g_aload_n hC dL_law_686 rfl ?_
  refine g_iload hC dL_law_687 rfl ?_
  refine g_iconst hC dL_law_689 ?_
  refine g_iadd hC dL_law_690 ?_
  refine g_sld hC hB (by omega) (by omega) hL dL_law_691 ?_
  rw [← ea1]
  refine g_aload_n hC dL_law_692 rfl ?_
  refine g_iload hC dL_law_693 rfl ?_
  refine g_iconst hC dL_law_695 ?_
  refine g_iadd hC dL_law_696 ?_
  refine g_sld hC hB (by omega) (by omega) hL dL_law_697 ?_
  rw [← ea2]
  refine g_VA hC (kX9_alter (gl X) (gD X) (gac X) G x A la l0 l1 l2 sa ra rp ex ar ms ss ch ds lk g y z a1 a2 hW r1 r2) cvX9_alter lkL_78 (by assumption) rfl rfl (Nat.le_of_ble_eq_true rfl) (gfitL hR (by omega) (by omega) (by omega)) dL_law_698 (fun x698 sh698 rf698 mem698 hx698 => ?_)
  obtain ⟨hr9, w9⟩ := hx698
  subst hr9
  obtain ⟨q1, q2, q3⟩ := hS9.mid w9.2
  refine g_re q1 (fun B1 hM1 hB1 hj1 => ?_)
  have hV1 := q2 B1 hB1
  have mo1 := hM1.1
  refine g_aload_n hC dL_law_701 rfl ?_
  refine g_aload_n hC dL_law_702 rfl ?_
  refine g_iload hC dL_law_703 rfl ?_
  refine g_iconst hC dL_law_705 ?_
  refine g_iadd hC dL_law_706 ?_
  refine g_sld hC hB (by omega) (by omega) hL dL_law_707 ?_
  rw [← ea1]
  refine g_aload_n hC dL_law_708 rfl ?_
  refine g_iload hC dL_law_709 rfl ?_
  refine g_iconst hC dL_law_711 ?_
  refine g_iadd hC dL_law_712 ?_
  refine g_sld hC hB (by omega) (by omega) hL dL_law_713 ?_
  rw [← ea2]
  refine g_VM hC (kX10_alter (gl X) (gD X) (gac X) m B1 rp ex ar ms ss ch ds lk g y z a1 a2 hM1 hV1 kS kT r1 r2) cvX10_alter lkL_81 (by assumption) rfl rfl (Nat.le_of_ble_eq_true rfl) (gfitL hR (by omega) (by omega) (by omega)) dL_law_714 (fun x714 mem714 hx714 => ?_)
  obtain ⟨hr8, v2, c2⟩ := hx714
  subst hr8
  refine g_ceq (tgt := 1205) hC dL_law_717 (by decide) ?_
  exact hK _ _ _ _ _ B1 _ _ _ _ _ _ _ _ _ _ _ _ _ (hS9.next w9 hM1 hB1 hj1 v2 c2 hI) (by omega) (by omega)
set_option maxHeartbeats 4000000 in
set_option maxRecDepth 100000 in
theorem law_c14 {X : gX} (hC : gC X cL_law RL) (hR : gRm X = room_1) {b L : Nat} {xs : Nat → Int32} (hB : gScr X b L xs) (hL : L ≤ 2560) {G : Nat → Prop} {sh : Nat → Nat × Nat} {rf : Nat → Nat → Option Nat} {mem : Nat → Nat → Int} {x m o : Nat} {A B : Nat → Nat} {rp ex ar : List Int} {ms : List (Option MemT)} {ss : List (Option SetT)} {ch : Lns} {ds : Dfs} {lk : Nat} {g y z : Int} (hS : LSt G sh rf mem x m o A B rp ms ss ch ds lk ex ar g y z) {i cells slots : Nat} (hi : (i : Int) + 5 ≤ L) (hcs : cells ≤ 600000) (hsl : slots ≤ 7200000) {o5 o6 : Option Value} (hK : ∀ (sh1 : Nat → Nat × Nat) (rf1 : Nat → Nat → Option Nat) (mem1 : Nat → Nat → Int) (cells1 slots1 : Nat) (B1 : Nat → Nat) (rp1 ex1 ar1 : List Int) (ms1 : List (Option MemT)) (ss1 : List (Option SetT)) (ch1 : Lns) (ds1 : Dfs) (lk1 : Nat) (g1 y1 z1 : Int) o5 o6, LSt G sh1 rf1 mem1 x m o A B1 rp1 ms1 ss1 ch1 ds1 lk1 ex1 ar1 g1 y1 z1 → cells1 + 4 * ms.length ≤ cells + 4 * ms1.length + 10 → slots1 + 364 * ms.length ≤ slots + 364 * ms1.length + 1000 → gG X sh1 rf1 mem1 cells1 slots1 1205 [some (.ref b), some (.ref x), some (.ref m), some (.ref o), some (.int (iI i)), o5, o6] []) : gG X sh rf mem cells slots 722 [some (.ref b), some (.ref x), some (.ref m), some (.ref o), some (.int (iI i)), o5, o6] [] := by
  have hS9 := hS
  obtain ⟨⟨la, l0, l1, l2, sa, ra, hW⟩, hM, hV, hG, so, hI, hmo, hbo⟩ := hS
  have ho := hW.1.1
  obtain ⟨kR, kM, kS, kL, kD, klk, kE1, kE2, kA, kT⟩ := hW.ok
  have kC := hI.okC kL
  have kE := hI.2.1
  have kAr := hI.2.2
  obtain ⟨a1, ea1⟩ : ∃ a, a = (xs ((i : Int) + 1).toNat).toInt := ⟨_, rfl⟩
  have r1 : inR a1 := by rw [ea1]; exact inR_of _
  have t1 : -2147483648 ≤ a1 ∧ a1 < 2147483648 := r1
  obtain ⟨a2, ea2⟩ : ∃ a, a = (xs ((i : Int) + 2).toNat).toInt := ⟨_, rfl⟩
  have r2 : inR a2 := by rw [ea2]; exact inR_of _
  have t2 : -2147483648 ≤ a2 ∧ a2 < 2147483648 := r2
  obtain ⟨a3, ea3⟩ : ∃ a, a = (xs ((i : Int) + 3).toNat).toInt := ⟨_, rfl⟩
  have r3 : inR a3 := by rw [ea3]; exact inR_of _
  have t3 : -2147483648 ≤ a3 ∧ a3 < 2147483648 := r3
  obtain ⟨a4, ea4⟩ : ∃ a, a = (xs ((i : Int) + 4).toNat).toInt := ⟨_, rfl⟩
  have r4 : inR a4 := by rw [ea4]; exact inR_of _
  have t4 : -2147483648 ≤ a4 ∧ a4 < 2147483648 := r4
  refine g_aload_n hC dL_law_722 rfl ?_
  refine g_aload_n hC dL_law_723 rfl ?_
  refine g_iload hC dL_law_724 rfl ?_
  refine g_iconst hC dL_law_726 ?_
  refine g_iadd hC dL_law_727 ?_
  refine g_sld hC hB (by omega) (by omega) hL dL_law_728 ?_
  rw [← ea1]
  refine g_aload_n hC dL_law_729 rfl ?_
  refine g_iload hC dL_law_730 rfl ?_
  refine g_iconst hC dL_law_732 ?_
  refine g_iadd hC dL_law_733 ?_
  refine g_sld hC hB (by omega) (by omega) hL dL_law_734 ?_
  rw [← ea2]
  refine g_VA hC (kX9_repro (gl X) (gD X) (gac X) G x A la l0 l1 l2 sa ra rp ex ar ms ss ch ds lk g y z a1 a2 hW r1 r2) cvX9_repro lkL_82 (by assumption) rfl rfl (Nat.le_of_ble_eq_true rfl) (gfitL hR (by omega) (by omega) (by omega)) dL_law_735 (fun x735 sh735 rf735 mem735 hx735 => ?_)
  obtain ⟨hr9, w9⟩ := hx735
  subst hr9
  obtain ⟨q1, q2, q3⟩ := hS9.mid w9.2
  refine g_re q1 (fun B1 hM1 hB1 hj1 => ?_)
  have hV1 := q2 B1 hB1
  have mo1 := hM1.1
  refine g_aload_n hC dL_law_738 rfl ?_
  refine g_aload_n hC dL_law_739 rfl ?_
  refine g_iload hC dL_law_740 rfl ?_
  refine g_iconst hC dL_law_742 ?_
  refine g_iadd hC dL_law_743 ?_
  refine g_sld hC hB (by omega) (by omega) hL dL_law_744 ?_
  rw [← ea1]
  refine g_aload_n hC dL_law_745 rfl ?_
  refine g_iload hC dL_law_746 rfl ?_
  refine g_iconst hC dL_law_748 ?_
  refine g_iadd hC dL_law_749 ?_
  refine g_sld hC hB (by omega) (by omega) hL dL_law_750 ?_
  rw [← ea2]
  refine g_VM hC (kX10_repro (gl X) (gD X) (gac X) m B1 rp ex ar ms ss ch ds lk g y z a1 a2 hM1 hV1 kS kT r1 r2) cvX10_repro lkL_85 (by assumption) rfl rfl (Nat.le_of_ble_eq_true rfl) (gfitL hR (by omega) (by omega) (by omega)) dL_law_751 (fun x751 mem751 hx751 => ?_)
  obtain ⟨hr8, v2, c2⟩ := hx751
  subst hr8
  refine g_ceq (tgt := 1205) hC dL_law_754 (by decide) ?_
  exact hK _ _ _ _ _ B1 _ _ _ _ _ _ _ _ _ _ _ _ _ (hS9.next w9 hM1 hB1 hj1 v2 c2 hI) (by omega) (by omega)
set_option maxHeartbeats 4000000 in
set_option maxRecDepth 100000 in
theorem law_c15 {X : gX} (hC : gC X cL_law RL) (hR : gRm X = room_1) {b L : Nat} {xs : Nat → Int32} (hB : gScr X b L xs) (hL : L ≤ 2560) {G : Nat → Prop} {sh : Nat → Nat × Nat} {rf : Nat → Nat → Option Nat} {mem : Nat → Nat → Int} {x m o : Nat} {A B : Nat → Nat} {rp ex ar : List Int} {ms : List (Option MemT)} {ss : List (Option SetT)} {ch : Lns} {ds : Dfs} {lk : Nat} {g y z : Int} (hS : LSt G sh rf mem x m o A B rp ms ss ch ds lk ex ar g y z) {i cells slots : Nat} (hi : (i : Int) + 5 ≤ L) (hcs : cells ≤ 600000) (hsl : slots ≤ 7200000) {o5 o6 : Option Value} (hK : ∀ (sh1 : Nat → Nat × Nat) (rf1 : Nat → Nat → Option Nat) (mem1 : Nat → Nat → Int) (cells1 slots1 : Nat) (B1 : Nat → Nat) (rp1 ex1 ar1 : List Int) (ms1 : List (Option MemT)) (ss1 : List (Option SetT)) (ch1 : Lns) (ds1 : Dfs) (lk1 : Nat) (g1 y1 z1 : Int) o5 o6, LSt G sh1 rf1 mem1 x m o A B1 rp1 ms1 ss1 ch1 ds1 lk1 ex1 ar1 g1 y1 z1 → cells1 + 4 * ms.length ≤ cells + 4 * ms1.length + 10 → slots1 + 364 * ms.length ≤ slots + 364 * ms1.length + 1000 → gG X sh1 rf1 mem1 cells1 slots1 1205 [some (.ref b), some (.ref x), some (.ref m), some (.ref o), some (.int (iI i)), o5, o6] []) : gG X sh rf mem cells slots 759 [some (.ref b), some (.ref x), some (.ref m), some (.ref o), some (.int (iI i)), o5, o6] [] := by
  have hS9 := hS
  obtain ⟨⟨la, l0, l1, l2, sa, ra, hW⟩, hM, hV, hG, so, hI, hmo, hbo⟩ := hS
  have ho := hW.1.1
  obtain ⟨kR, kM, kS, kL, kD, klk, kE1, kE2, kA, kT⟩ := hW.ok
  have kC := hI.okC kL
  have kE := hI.2.1
  have kAr := hI.2.2
  obtain ⟨a1, ea1⟩ : ∃ a, a = (xs ((i : Int) + 1).toNat).toInt := ⟨_, rfl⟩
  have r1 : inR a1 := by rw [ea1]; exact inR_of _
  have t1 : -2147483648 ≤ a1 ∧ a1 < 2147483648 := r1
  obtain ⟨a2, ea2⟩ : ∃ a, a = (xs ((i : Int) + 2).toNat).toInt := ⟨_, rfl⟩
  have r2 : inR a2 := by rw [ea2]; exact inR_of _
  have t2 : -2147483648 ≤ a2 ∧ a2 < 2147483648 := r2
  obtain ⟨a3, ea3⟩ : ∃ a, a = (xs ((i : Int) + 3).toNat).toInt := ⟨_, rfl⟩
  have r3 : inR a3 := by rw [ea3]; exact inR_of _
  have t3 : -2147483648 ≤ a3 ∧ a3 < 2147483648 := r3
  obtain ⟨a4, ea4⟩ : ∃ a, a = (xs ((i : Int) + 4).toNat).toInt := ⟨_, rfl⟩
  have r4 : inR a4 := by rw [ea4]; exact inR_of _
  have t4 : -2147483648 ≤ a4 ∧ a4 < 2147483648 := r4
  refine g_aload_n hC dL_law_759 rfl ?_
  refine g_aload_n hC dL_law_760 rfl ?_
  refine g_iload hC dL_law_761 rfl ?_
  refine g_iconst hC dL_law_763 ?_
  refine g_iadd hC dL_law_764 ?_
  refine g_sld hC hB (by omega) (by omega) hL dL_law_765 ?_
  rw [← ea1]
  refine g_aload_n hC dL_law_766 rfl ?_
  refine g_iload hC dL_law_767 rfl ?_
  refine g_iconst hC dL_law_769 ?_
  refine g_iadd hC dL_law_770 ?_
  refine g_sld hC hB (by omega) (by omega) hL dL_law_771 ?_
  rw [← ea2]
  refine g_aload_n hC dL_law_772 rfl ?_
  refine g_iload hC dL_law_773 rfl ?_
  refine g_iconst hC dL_law_775 ?_
  refine g_iadd hC dL_law_776 ?_
  refine g_sld hC hB (by omega) (by omega) hL dL_law_777 ?_
  rw [← ea3]
  refine g_aload_n hC dL_law_778 rfl ?_
  refine g_iload hC dL_law_779 rfl ?_
  refine g_iconst hC dL_law_781 ?_
  refine g_iadd hC dL_law_782 ?_
  refine g_sld hC hB (by omega) (by omega) hL dL_law_783 ?_
  rw [← ea4]
  refine g_VA hC (kX9_generate (gl X) (gD X) (gac X) G x A la l0 l1 l2 sa ra rp ex ar ms ss ch ds lk g y z a1 a2 a3 a4 hW r1 r2) cvX9_generate lkL_86 (by assumption) rfl rfl (Nat.le_of_ble_eq_true rfl) (gfitL hR (by omega) (by omega) (by omega)) dL_law_784 (fun x784 sh784 rf784 mem784 hx784 => ?_)
  obtain ⟨hr9, w9⟩ := hx784
  subst hr9
  obtain ⟨q1, q2, q3⟩ := hS9.mid w9.2
  refine g_re q1 (fun B1 hM1 hB1 hj1 => ?_)
  have hV1 := q2 B1 hB1
  have mo1 := hM1.1
  refine g_aload_n hC dL_law_787 rfl ?_
  refine g_aload_n hC dL_law_788 rfl ?_
  refine g_iload hC dL_law_789 rfl ?_
  refine g_iconst hC dL_law_791 ?_
  refine g_iadd hC dL_law_792 ?_
  refine g_sld hC hB (by omega) (by omega) hL dL_law_793 ?_
  rw [← ea1]
  refine g_aload_n hC dL_law_794 rfl ?_
  refine g_iload hC dL_law_795 rfl ?_
  refine g_iconst hC dL_law_797 ?_
  refine g_iadd hC dL_law_798 ?_
  refine g_sld hC hB (by omega) (by omega) hL dL_law_799 ?_
  rw [← ea2]
  refine g_aload_n hC dL_law_800 rfl ?_
  refine g_iload hC dL_law_801 rfl ?_
  refine g_iconst hC dL_law_803 ?_
  refine g_iadd hC dL_law_804 ?_
  refine g_sld hC hB (by omega) (by omega) hL dL_law_805 ?_
  rw [← ea3]
  refine g_aload_n hC dL_law_806 rfl ?_
  refine g_iload hC dL_law_807 rfl ?_
  refine g_iconst hC dL_law_809 ?_
  refine g_iadd hC dL_law_810 ?_
  refine g_sld hC hB (by omega) (by omega) hL dL_law_811 ?_
  rw [← ea4]
  refine g_VM hC (kX10_generate (gl X) (gD X) (gac X) m B1 rp ex ar ms ss ch ds lk g y z a1 a2 a3 a4 hM1 hV1 kS kT r1 r2) cvX10_generate lkL_89 (by assumption) rfl rfl (Nat.le_of_ble_eq_true rfl) (gfitL hR (by omega) (by omega) (by omega)) dL_law_812 (fun x812 mem812 hx812 => ?_)
  obtain ⟨hr8, v2, c2⟩ := hx812
  subst hr8
  refine g_ceq (tgt := 1205) hC dL_law_815 (by decide) ?_
  exact hK _ _ _ _ _ B1 _ _ _ _ _ _ _ _ _ _ _ _ _ (hS9.next w9 hM1 hB1 hj1 v2 c2 hI) (by omega) (by omega)
set_option maxHeartbeats 4000000 in
set_option maxRecDepth 100000 in
theorem law_c16 {X : gX} (hC : gC X cL_law RL) (hR : gRm X = room_1) {b L : Nat} {xs : Nat → Int32} (hB : gScr X b L xs) (hL : L ≤ 2560) {G : Nat → Prop} {sh : Nat → Nat × Nat} {rf : Nat → Nat → Option Nat} {mem : Nat → Nat → Int} {x m o : Nat} {A B : Nat → Nat} {rp ex ar : List Int} {ms : List (Option MemT)} {ss : List (Option SetT)} {ch : Lns} {ds : Dfs} {lk : Nat} {g y z : Int} (hS : LSt G sh rf mem x m o A B rp ms ss ch ds lk ex ar g y z) {i cells slots : Nat} (hi : (i : Int) + 5 ≤ L) (hcs : cells ≤ 600000) (hsl : slots ≤ 7200000) {o5 o6 : Option Value} (hK : ∀ (sh1 : Nat → Nat × Nat) (rf1 : Nat → Nat → Option Nat) (mem1 : Nat → Nat → Int) (cells1 slots1 : Nat) (B1 : Nat → Nat) (rp1 ex1 ar1 : List Int) (ms1 : List (Option MemT)) (ss1 : List (Option SetT)) (ch1 : Lns) (ds1 : Dfs) (lk1 : Nat) (g1 y1 z1 : Int) o5 o6, LSt G sh1 rf1 mem1 x m o A B1 rp1 ms1 ss1 ch1 ds1 lk1 ex1 ar1 g1 y1 z1 → cells1 + 4 * ms.length ≤ cells + 4 * ms1.length + 10 → slots1 + 364 * ms.length ≤ slots + 364 * ms1.length + 1000 → gG X sh1 rf1 mem1 cells1 slots1 1205 [some (.ref b), some (.ref x), some (.ref m), some (.ref o), some (.int (iI i)), o5, o6] []) : gG X sh rf mem cells slots 820 [some (.ref b), some (.ref x), some (.ref m), some (.ref o), some (.int (iI i)), o5, o6] [] := by
  have hS9 := hS
  obtain ⟨⟨la, l0, l1, l2, sa, ra, hW⟩, hM, hV, hG, so, hI, hmo, hbo⟩ := hS
  have ho := hW.1.1
  obtain ⟨kR, kM, kS, kL, kD, klk, kE1, kE2, kA, kT⟩ := hW.ok
  have kC := hI.okC kL
  have kE := hI.2.1
  have kAr := hI.2.2
  obtain ⟨a1, ea1⟩ : ∃ a, a = (xs ((i : Int) + 1).toNat).toInt := ⟨_, rfl⟩
  have r1 : inR a1 := by rw [ea1]; exact inR_of _
  have t1 : -2147483648 ≤ a1 ∧ a1 < 2147483648 := r1
  obtain ⟨a2, ea2⟩ : ∃ a, a = (xs ((i : Int) + 2).toNat).toInt := ⟨_, rfl⟩
  have r2 : inR a2 := by rw [ea2]; exact inR_of _
  have t2 : -2147483648 ≤ a2 ∧ a2 < 2147483648 := r2
  obtain ⟨a3, ea3⟩ : ∃ a, a = (xs ((i : Int) + 3).toNat).toInt := ⟨_, rfl⟩
  have r3 : inR a3 := by rw [ea3]; exact inR_of _
  have t3 : -2147483648 ≤ a3 ∧ a3 < 2147483648 := r3
  obtain ⟨a4, ea4⟩ : ∃ a, a = (xs ((i : Int) + 4).toNat).toInt := ⟨_, rfl⟩
  have r4 : inR a4 := by rw [ea4]; exact inR_of _
  have t4 : -2147483648 ≤ a4 ∧ a4 < 2147483648 := r4
  refine g_aload_n hC dL_law_820 rfl ?_
  refine g_aload_n hC dL_law_821 rfl ?_
  refine g_iload hC dL_law_822 rfl ?_
  refine g_iconst hC dL_law_824 ?_
  refine g_iadd hC dL_law_825 ?_
  refine g_sld hC hB (by omega) (by omega) hL dL_law_826 ?_
  rw [← ea1]
  refine g_VA hC (kX9_verify (gl X) (gD X) (gac X) G x A la l0 l1 l2 sa ra rp ex ar ms ss ch ds lk g y z a1 hW r1) cvX9_verify lkL_90 (by assumption) rfl rfl (Nat.le_of_ble_eq_true rfl) (gfitL hR (by omega) (by omega) (by omega)) dL_law_827 (fun x827 sh827 rf827 mem827 hx827 => ?_)
  obtain ⟨hr9, w9⟩ := hx827
  subst hr9
  obtain ⟨q1, q2, q3⟩ := hS9.mid w9.2
  refine g_re q1 (fun B1 hM1 hB1 hj1 => ?_)
  have hV1 := q2 B1 hB1
  have mo1 := hM1.1
  refine g_aload_n hC dL_law_830 rfl ?_
  refine g_aload_n hC dL_law_831 rfl ?_
  refine g_iload hC dL_law_832 rfl ?_
  refine g_iconst hC dL_law_834 ?_
  refine g_iadd hC dL_law_835 ?_
  refine g_sld hC hB (by omega) (by omega) hL dL_law_836 ?_
  rw [← ea1]
  refine g_VM hC (kX10_verify (gl X) (gD X) (gac X) m B1 rp ex ar ms ss ch ds lk g y z a1 hM1 hV1 kS kT r1) cvX10_verify lkL_93 (by assumption) rfl rfl (Nat.le_of_ble_eq_true rfl) (gfitL hR (by omega) (by omega) (by omega)) dL_law_837 (fun x837 mem837 hx837 => ?_)
  obtain ⟨hr8, v2, c2⟩ := hx837
  subst hr8
  refine g_ceq (tgt := 1205) hC dL_law_840 (by decide) ?_
  exact hK _ _ _ _ _ B1 _ _ _ _ _ _ _ _ _ _ _ _ _ (hS9.next w9 hM1 hB1 hj1 v2 c2 hI) (by omega) (by omega)
set_option maxHeartbeats 4000000 in
set_option maxRecDepth 100000 in
theorem law_c17 {X : gX} (hC : gC X cL_law RL) (hR : gRm X = room_1) {b L : Nat} {xs : Nat → Int32} (hB : gScr X b L xs) (hL : L ≤ 2560) {G : Nat → Prop} {sh : Nat → Nat × Nat} {rf : Nat → Nat → Option Nat} {mem : Nat → Nat → Int} {x m o : Nat} {A B : Nat → Nat} {rp ex ar : List Int} {ms : List (Option MemT)} {ss : List (Option SetT)} {ch : Lns} {ds : Dfs} {lk : Nat} {g y z : Int} (hS : LSt G sh rf mem x m o A B rp ms ss ch ds lk ex ar g y z) {i cells slots : Nat} (hi : (i : Int) + 5 ≤ L) (hcs : cells ≤ 600000) (hsl : slots ≤ 7200000) {o5 o6 : Option Value} (hK : ∀ (sh1 : Nat → Nat × Nat) (rf1 : Nat → Nat → Option Nat) (mem1 : Nat → Nat → Int) (cells1 slots1 : Nat) (B1 : Nat → Nat) (rp1 ex1 ar1 : List Int) (ms1 : List (Option MemT)) (ss1 : List (Option SetT)) (ch1 : Lns) (ds1 : Dfs) (lk1 : Nat) (g1 y1 z1 : Int) o5 o6, LSt G sh1 rf1 mem1 x m o A B1 rp1 ms1 ss1 ch1 ds1 lk1 ex1 ar1 g1 y1 z1 → cells1 + 4 * ms.length ≤ cells + 4 * ms1.length + 10 → slots1 + 364 * ms.length ≤ slots + 364 * ms1.length + 1000 → gG X sh1 rf1 mem1 cells1 slots1 1205 [some (.ref b), some (.ref x), some (.ref m), some (.ref o), some (.int (iI i)), o5, o6] []) : gG X sh rf mem cells slots 845 [some (.ref b), some (.ref x), some (.ref m), some (.ref o), some (.int (iI i)), o5, o6] [] := by
  have hS9 := hS
  obtain ⟨⟨la, l0, l1, l2, sa, ra, hW⟩, hM, hV, hG, so, hI, hmo, hbo⟩ := hS
  have ho := hW.1.1
  obtain ⟨kR, kM, kS, kL, kD, klk, kE1, kE2, kA, kT⟩ := hW.ok
  have kC := hI.okC kL
  have kE := hI.2.1
  have kAr := hI.2.2
  obtain ⟨a1, ea1⟩ : ∃ a, a = (xs ((i : Int) + 1).toNat).toInt := ⟨_, rfl⟩
  have r1 : inR a1 := by rw [ea1]; exact inR_of _
  have t1 : -2147483648 ≤ a1 ∧ a1 < 2147483648 := r1
  obtain ⟨a2, ea2⟩ : ∃ a, a = (xs ((i : Int) + 2).toNat).toInt := ⟨_, rfl⟩
  have r2 : inR a2 := by rw [ea2]; exact inR_of _
  have t2 : -2147483648 ≤ a2 ∧ a2 < 2147483648 := r2
  obtain ⟨a3, ea3⟩ : ∃ a, a = (xs ((i : Int) + 3).toNat).toInt := ⟨_, rfl⟩
  have r3 : inR a3 := by rw [ea3]; exact inR_of _
  have t3 : -2147483648 ≤ a3 ∧ a3 < 2147483648 := r3
  obtain ⟨a4, ea4⟩ : ∃ a, a = (xs ((i : Int) + 4).toNat).toInt := ⟨_, rfl⟩
  have r4 : inR a4 := by rw [ea4]; exact inR_of _
  have t4 : -2147483648 ≤ a4 ∧ a4 < 2147483648 := r4
  refine g_aload_n hC dL_law_845 rfl ?_
  refine g_aload_n hC dL_law_846 rfl ?_
  refine g_iload hC dL_law_847 rfl ?_
  refine g_iconst hC dL_law_849 ?_
  refine g_iadd hC dL_law_850 ?_
  refine g_sld hC hB (by omega) (by omega) hL dL_law_851 ?_
  rw [← ea1]
  refine g_VA hC (kX9_export0 (gl X) (gD X) (gac X) G x A la l0 l1 l2 sa ra rp ex ar ms ss ch ds lk g y z a1 hW r1) cvX9_export0 lkL_94 (by assumption) rfl rfl (Nat.le_of_ble_eq_true rfl) (gfitL hR (by omega) (by omega) (by omega)) dL_law_852 (fun x852 sh852 rf852 mem852 hx852 => ?_)
  obtain ⟨hr9, w9⟩ := hx852
  subst hr9
  obtain ⟨q1, q2, q3⟩ := hS9.mid w9.2
  refine g_re q1 (fun B1 hM1 hB1 hj1 => ?_)
  have hV1 := q2 B1 hB1
  have mo1 := hM1.1
  refine g_aload_n hC dL_law_855 rfl ?_
  refine g_aload_n hC dL_law_856 rfl ?_
  refine g_iload hC dL_law_857 rfl ?_
  refine g_iconst hC dL_law_859 ?_
  refine g_iadd hC dL_law_860 ?_
  refine g_sld hC hB (by omega) (by omega) hL dL_law_861 ?_
  rw [← ea1]
  refine g_VM hC (kX10_export0 (gl X) (gD X) (gac X) m B1 rp ex ar ms ss ch ds lk g y z a1 hM1 hV1 kS r1) cvX10_export0 lkL_97 (by assumption) rfl rfl (Nat.le_of_ble_eq_true rfl) (gfitL hR (by omega) (by omega) (by omega)) dL_law_862 (fun x862 mem862 hx862 => ?_)
  obtain ⟨hr8, v2, c2⟩ := hx862
  subst hr8
  refine g_ceq (tgt := 1205) hC dL_law_865 (by decide) ?_
  exact hK _ _ _ _ _ B1 _ _ _ _ _ _ _ _ _ _ _ _ _ (hS9.next w9 hM1 hB1 hj1 v2 c2 (hI.exp kS)) (by omega) (by omega)
