set_option maxHeartbeats 4000000 in
set_option maxRecDepth 100000 in
theorem law_c19 {X : gX} (hC : gC X cL_law RL) (hR : gRm X = room_1) {b L : Nat} {xs : Nat → Int32} (hB : gScr X b L xs) (hL : L ≤ 2560) {G : Nat → Prop} {sh : Nat → Nat × Nat} {rf : Nat → Nat → Option Nat} {mem : Nat → Nat → Int} {x m o : Nat} {A B : Nat → Nat} {rp ex ar : List Int} {ms : List (Option MemT)} {ss : List (Option SetT)} {ch : Lns} {ds : Dfs} {lk : Nat} {g y z : Int} (hS : LSt G sh rf mem x m o A B rp ms ss ch ds lk ex ar g y z) {i cells slots : Nat} (hi : (i : Int) + 5 ≤ L) (hcs : cells ≤ 600000) (hsl : slots ≤ 7200000) {o5 o6 : Option Value} (hK : ∀ (sh1 : Nat → Nat × Nat) (rf1 : Nat → Nat → Option Nat) (mem1 : Nat → Nat → Int) (cells1 slots1 : Nat) (B1 : Nat → Nat) (rp1 ex1 ar1 : List Int) (ms1 : List (Option MemT)) (ss1 : List (Option SetT)) (ch1 : Lns) (ds1 : Dfs) (lk1 : Nat) (g1 y1 z1 : Int) o5 o6, LSt G sh1 rf1 mem1 x m o A B1 rp1 ms1 ss1 ch1 ds1 lk1 ex1 ar1 g1 y1 z1 → cells1 + 4 * ms.length ≤ cells + 4 * ms1.length + 10 → slots1 + 364 * ms.length ≤ slots + 364 * ms1.length + 1000 → gG X sh1 rf1 mem1 cells1 slots1 1205 [some (.ref b), some (.ref x), some (.ref m), some (.ref o), some (.int (iI i)), o5, o6] []) : gG X sh rf mem cells slots 926 [some (.ref b), some (.ref x), some (.ref m), some (.ref o), some (.int (iI i)), o5, o6] [] := by
  have hS9 := hS
  obtain ⟨⟨la, l0, l1, l2, sa, ra, hW⟩, hM, hV, hG, so, hI, hmo, hbo⟩ := hS
  have ho := hW.1.1
  obtain ⟨kR, kM, kS, kL, kD, klk, kE1, kE2, kA, kT⟩ := hW.ok
  have kC := hI.okC kL
  have kE := hI.2.1
  have kAr := hI.2.2
  obtain ⟨a1, ea1⟩ : ∃ a, a = (xs ((i : Int) + 1).toNat).toInt := ⟨_, rfl⟩
  have r1 : inR a1 := by rw [ea1]; exact inR_of _
  have t1 : -2147483648 ≤ a1 ∧ a1 < 2147483648 := r1
  obtain ⟨a2, ea2⟩ : ∃ a, a = (xs ((i : Int) + 2).toNat).toInt := ⟨_, rfl⟩
  have r2 : inR a2 := by rw [ea2]; exact inR_of _
  have t2 : -2147483648 ≤ a2 ∧ a2 < 2147483648 := r2
  obtain ⟨a3, ea3⟩ : ∃ a, a = (xs ((i : Int) + 3).toNat).toInt := ⟨_, rfl⟩
  have r3 : inR a3 := by rw [ea3]; exact inR_of _
  have t3 : -2147483648 ≤ a3 ∧ a3 < 2147483648 := r3
  obtain ⟨a4, ea4⟩ : ∃ a, a = (xs ((i : Int) + 4).toNat).toInt := ⟨_, rfl⟩
  have r4 : inR a4 := by rw [ea4]; exact inR_of _
  have t4 : -2147483648 ≤ a4 ∧ a4 < 2147483648 := r4
  refine g_aload_n hC dL_law_926 rfl ?_
  refine g_aload_n hC dL_law_927 rfl ?_
  refine g_iload hC dL_law_928 rfl ?_
  refine g_iconst hC dL_law_930 ?_
  refine g_iadd hC dL_law_931 ?_
  refine g_sld hC hB (by omega) (by omega) hL dL_law_932 ?_
  rw [← ea1]
  refine g_i2b hC dL_law_933 ?_
  refine g_topI (iI_sb _) ?_
  refine g_VA hC (kX9_import0 (gl X) (gD X) (gac X) G x A la l0 l1 l2 sa ra rp ex ar ms ss ch ds lk g y z (sb a1) hW kAr) cvX9_import0 lkL_108 (by assumption) rfl rfl (Nat.le_of_ble_eq_true rfl) (gfitL hR (by omega) (by omega) (by omega)) dL_law_934 (fun x934 sh934 rf934 mem934 hx934 => ?_)
  obtain ⟨s9, t9, P1, w9⟩ : ∃ s9 t9, impP ss ar (sb a1 % 256) x934 s9 t9 ∧ WN G sh rf mem sh934 rf934 mem934 x A rp ms s9 ch ds lk ex t9 g y z := by
    rcases hx934 with ⟨h1, h2, h3⟩ | ⟨h1, h2, h3, h4⟩ | ⟨h1, h2, h3, h4, h5⟩ | ⟨h1, h2, h3, h4, h5⟩
    · exact ⟨_, _, Or.inl ⟨h1, h2, rfl, rfl⟩, h3⟩
    · exact ⟨_, _, Or.inr (Or.inl ⟨h1, h2, h3, rfl, rfl⟩), h4⟩
    · exact ⟨_, _, Or.inr (Or.inr (Or.inl ⟨h1, h2, h3, h4, rfl, rfl⟩)), h5⟩
    · exact ⟨_, _, Or.inr (Or.inr (Or.inr ⟨h1, h2, h3, h4, rfl, rfl⟩)), h5⟩
  obtain ⟨q1, q2, q3⟩ := hS9.mid w9.2
  refine g_re q1 (fun B1 hM1 hB1 hj1 => ?_)
  have hV1 := q2 B1 hB1
  have mo1 := hM1.1
  refine g_aload_n hC dL_law_937 rfl ?_
  refine g_aload_n hC dL_law_938 rfl ?_
  refine g_iload hC dL_law_939 rfl ?_
  refine g_iconst hC dL_law_941 ?_
  refine g_iadd hC dL_law_942 ?_
  refine g_sld hC hB (by omega) (by omega) hL dL_law_943 ?_
  rw [← ea1]
  refine g_i2b hC dL_law_944 ?_
  refine g_topI (iI_sb _) ?_
  refine g_VM hC (kX10_import0 (gl X) (gD X) (gac X) m B1 rp ex ar ms ss ch ds lk g y z (sb a1) hM1 hV1 kS ⟨kAr, kA⟩) cvX10_import0 lkL_112 (by assumption) rfl rfl (Nat.le_of_ble_eq_true rfl) (gfitL hR (by omega) (by omega) (by omega)) dL_law_945 (fun x945 mem945 hx945 => ?_)
  obtain ⟨s8, t8, P2, v2, c2⟩ : ∃ s8 t8, impP ss ar (sb a1 % 256) x945 s8 t8 ∧ MV m B1 mem945 rp ms s8 ch ds lk ex t8 g y z ∧ chA m B1 mem934 mem945 := by
    rcases hx945 with ⟨h1, h2, h3⟩ | ⟨h1, h2, h3, h4⟩ | ⟨h1, h2, h3, h4, h5⟩ | ⟨h1, h2, h3, h4, h5⟩
    · exact ⟨_, _, Or.inl ⟨h1, h2, rfl, rfl⟩, h3⟩
    · exact ⟨_, _, Or.inr (Or.inl ⟨h1, h2, h3, rfl, rfl⟩), h4⟩
    · exact ⟨_, _, Or.inr (Or.inr (Or.inl ⟨h1, h2, h3, h4, rfl, rfl⟩)), h5⟩
    · exact ⟨_, _, Or.inr (Or.inr (Or.inr ⟨h1, h2, h3, h4, rfl, rfl⟩)), h5⟩
  obtain ⟨rfl, rfl, rfl⟩ := impP_one P1 P2
  refine g_ceq (tgt := 1205) hC dL_law_948 (by decide) ?_
  exact hK _ _ _ _ _ B1 _ _ _ _ _ _ _ _ _ _ _ _ _ (hS9.next w9 hM1 hB1 hj1 v2 c2 ⟨hI.1, hI.2.1, impP_ar P1 kAr (by omega)⟩) (by omega) (by omega)
set_option maxHeartbeats 4000000 in
set_option maxRecDepth 100000 in
theorem law_c20 {X : gX} (hC : gC X cL_law RL) (hR : gRm X = room_1) {b L : Nat} {xs : Nat → Int32} (hB : gScr X b L xs) (hL : L ≤ 2560) {G : Nat → Prop} {sh : Nat → Nat × Nat} {rf : Nat → Nat → Option Nat} {mem : Nat → Nat → Int} {x m o : Nat} {A B : Nat → Nat} {rp ex ar : List Int} {ms : List (Option MemT)} {ss : List (Option SetT)} {ch : Lns} {ds : Dfs} {lk : Nat} {g y z : Int} (hS : LSt G sh rf mem x m o A B rp ms ss ch ds lk ex ar g y z) {i cells slots : Nat} (hi : (i : Int) + 5 ≤ L) (hcs : cells ≤ 600000) (hsl : slots ≤ 7200000) {o5 o6 : Option Value} (hK : ∀ (sh1 : Nat → Nat × Nat) (rf1 : Nat → Nat → Option Nat) (mem1 : Nat → Nat → Int) (cells1 slots1 : Nat) (B1 : Nat → Nat) (rp1 ex1 ar1 : List Int) (ms1 : List (Option MemT)) (ss1 : List (Option SetT)) (ch1 : Lns) (ds1 : Dfs) (lk1 : Nat) (g1 y1 z1 : Int) o5 o6, LSt G sh1 rf1 mem1 x m o A B1 rp1 ms1 ss1 ch1 ds1 lk1 ex1 ar1 g1 y1 z1 → cells1 + 4 * ms.length ≤ cells + 4 * ms1.length + 10 → slots1 + 364 * ms.length ≤ slots + 364 * ms1.length + 1000 → gG X sh1 rf1 mem1 cells1 slots1 1205 [some (.ref b), some (.ref x), some (.ref m), some (.ref o), some (.int (iI i)), o5, o6] []) : gG X sh rf mem cells slots 953 [some (.ref b), some (.ref x), some (.ref m), some (.ref o), some (.int (iI i)), o5, o6] [] := by
  have hS9 := hS
  obtain ⟨⟨la, l0, l1, l2, sa, ra, hW⟩, hM, hV, hG, so, hI, hmo, hbo⟩ := hS
  have ho := hW.1.1
  obtain ⟨kR, kM, kS, kL, kD, klk, kE1, kE2, kA, kT⟩ := hW.ok
  have kC := hI.okC kL
  have kE := hI.2.1
  have kAr := hI.2.2
  obtain ⟨a1, ea1⟩ : ∃ a, a = (xs ((i : Int) + 1).toNat).toInt := ⟨_, rfl⟩
  have r1 : inR a1 := by rw [ea1]; exact inR_of _
  have t1 : -2147483648 ≤ a1 ∧ a1 < 2147483648 := r1
  obtain ⟨a2, ea2⟩ : ∃ a, a = (xs ((i : Int) + 2).toNat).toInt := ⟨_, rfl⟩
  have r2 : inR a2 := by rw [ea2]; exact inR_of _
  have t2 : -2147483648 ≤ a2 ∧ a2 < 2147483648 := r2
  obtain ⟨a3, ea3⟩ : ∃ a, a = (xs ((i : Int) + 3).toNat).toInt := ⟨_, rfl⟩
  have r3 : inR a3 := by rw [ea3]; exact inR_of _
  have t3 : -2147483648 ≤ a3 ∧ a3 < 2147483648 := r3
  obtain ⟨a4, ea4⟩ : ∃ a, a = (xs ((i : Int) + 4).toNat).toInt := ⟨_, rfl⟩
  have r4 : inR a4 := by rw [ea4]; exact inR_of _
  have t4 : -2147483648 ≤ a4 ∧ a4 < 2147483648 := r4
  refine g_aload_n hC dL_law_953 rfl ?_
  refine g_aload_n hC dL_law_954 rfl ?_
  refine g_iload hC dL_law_955 rfl ?_
  refine g_iconst hC dL_law_957 ?_
  refine g_iadd hC dL_law_958 ?_
  refine g_sld hC hB (by omega) (by omega) hL dL_law_959 ?_
  rw [← ea1]
  refine g_aload_n hC dL_law_960 rfl ?_
  refine g_iload hC dL_law_961 rfl ?_
  refine g_iconst hC dL_law_963 ?_
  refine g_iadd hC dL_law_964 ?_
  refine g_sld hC hB (by omega) (by omega) hL dL_law_965 ?_
  rw [← ea2]
  refine g_VP hC (kX9_dump (gl X) (gD X) (gac X) G x A la l0 l1 l2 sa ra rp ex ar ms ss ch ds lk g y z a1 a2 hW r1 r2 kE) cvX9_dump lkL_113 (by assumption) rfl rfl (Nat.le_of_ble_eq_true rfl) (gfitL hR (by omega) (by omega) (by omega)) dL_law_966 (fun x966 hx966 => ?_)
  have w9 : WN G sh rf mem sh rf mem x A rp ms ss ch ds lk ex ar g y z := ⟨⟨la, l0, l1, l2, sa, ra, hW⟩, fun _ _ => Un.rf0⟩
  subst hx966
  obtain ⟨q1, q2, q3⟩ := hS9.mid w9.2
  refine g_re q1 (fun B1 hM1 hB1 hj1 => ?_)
  have hV1 := q2 B1 hB1
  have mo1 := hM1.1
  refine g_aload_n hC dL_law_969 rfl ?_
  refine g_aload_n hC dL_law_970 rfl ?_
  refine g_iload hC dL_law_971 rfl ?_
  refine g_iconst hC dL_law_973 ?_
  refine g_iadd hC dL_law_974 ?_
  refine g_sld hC hB (by omega) (by omega) hL dL_law_975 ?_
  rw [← ea1]
  refine g_aload_n hC dL_law_976 rfl ?_
  refine g_iload hC dL_law_977 rfl ?_
  refine g_iconst hC dL_law_979 ?_
  refine g_iadd hC dL_law_980 ?_
  refine g_sld hC hB (by omega) (by omega) hL dL_law_981 ?_
  rw [← ea2]
  refine g_VM hC (kX10_dump (gl X) (gD X) (gac X) m B1 rp ex ar ms ss ch ds lk g y z a1 a2 hM1 hV1 ⟨kE1, kE, kE2⟩ r1 r2) cvX10_dump lkL_116 (by assumption) rfl rfl (Nat.le_of_ble_eq_true rfl) (gfitL hR (by omega) (by omega) (by omega)) dL_law_982 (fun x982 mem982 hx982 => ?_)
  obtain ⟨hr8, v2, c2⟩ := hx982
  subst hr8
  refine g_ceq (tgt := 1205) hC dL_law_985 (by decide) ?_
  exact hK _ _ _ _ _ B1 _ _ _ _ _ _ _ _ _ _ _ _ _ (hS9.next w9 hM1 hB1 hj1 v2 c2 hI) (by omega) (by omega)
set_option maxHeartbeats 4000000 in
set_option maxRecDepth 100000 in
theorem law_c21 {X : gX} (hC : gC X cL_law RL) (hR : gRm X = room_1) {b L : Nat} {xs : Nat → Int32} (hB : gScr X b L xs) (hL : L ≤ 2560) {G : Nat → Prop} {sh : Nat → Nat × Nat} {rf : Nat → Nat → Option Nat} {mem : Nat → Nat → Int} {x m o : Nat} {A B : Nat → Nat} {rp ex ar : List Int} {ms : List (Option MemT)} {ss : List (Option SetT)} {ch : Lns} {ds : Dfs} {lk : Nat} {g y z : Int} (hS : LSt G sh rf mem x m o A B rp ms ss ch ds lk ex ar g y z) {i cells slots : Nat} (hi : (i : Int) + 5 ≤ L) (hcs : cells ≤ 600000) (hsl : slots ≤ 7200000) {o5 o6 : Option Value} (hK : ∀ (sh1 : Nat → Nat × Nat) (rf1 : Nat → Nat → Option Nat) (mem1 : Nat → Nat → Int) (cells1 slots1 : Nat) (B1 : Nat → Nat) (rp1 ex1 ar1 : List Int) (ms1 : List (Option MemT)) (ss1 : List (Option SetT)) (ch1 : Lns) (ds1 : Dfs) (lk1 : Nat) (g1 y1 z1 : Int) o5 o6, LSt G sh1 rf1 mem1 x m o A B1 rp1 ms1 ss1 ch1 ds1 lk1 ex1 ar1 g1 y1 z1 → cells1 + 4 * ms.length ≤ cells + 4 * ms1.length + 10 → slots1 + 364 * ms.length ≤ slots + 364 * ms1.length + 1000 → gG X sh1 rf1 mem1 cells1 slots1 1205 [some (.ref b), some (.ref x), some (.ref m), some (.ref o), some (.int (iI i)), o5, o6] []) : gG X sh rf mem cells slots 990 [some (.ref b), some (.ref x), some (.ref m), some (.ref o), some (.int (iI i)), o5, o6] [] := by
  have hS9 := hS
  obtain ⟨⟨la, l0, l1, l2, sa, ra, hW⟩, hM, hV, hG, so, hI, hmo, hbo⟩ := hS
  have ho := hW.1.1
  obtain ⟨kR, kM, kS, kL, kD, klk, kE1, kE2, kA, kT⟩ := hW.ok
  have kC := hI.okC kL
  have kE := hI.2.1
  have kAr := hI.2.2
  obtain ⟨a1, ea1⟩ : ∃ a, a = (xs ((i : Int) + 1).toNat).toInt := ⟨_, rfl⟩
  have r1 : inR a1 := by rw [ea1]; exact inR_of _
  have t1 : -2147483648 ≤ a1 ∧ a1 < 2147483648 := r1
  obtain ⟨a2, ea2⟩ : ∃ a, a = (xs ((i : Int) + 2).toNat).toInt := ⟨_, rfl⟩
  have r2 : inR a2 := by rw [ea2]; exact inR_of _
  have t2 : -2147483648 ≤ a2 ∧ a2 < 2147483648 := r2
  obtain ⟨a3, ea3⟩ : ∃ a, a = (xs ((i : Int) + 3).toNat).toInt := ⟨_, rfl⟩
  have r3 : inR a3 := by rw [ea3]; exact inR_of _
  have t3 : -2147483648 ≤ a3 ∧ a3 < 2147483648 := r3
  obtain ⟨a4, ea4⟩ : ∃ a, a = (xs ((i : Int) + 4).toNat).toInt := ⟨_, rfl⟩
  have r4 : inR a4 := by rw [ea4]; exact inR_of _
  have t4 : -2147483648 ≤ a4 ∧ a4 < 2147483648 := r4
  rcases (show a1 = 0 ∨ a1 ≠ 0 by omega) with hz | hz
  · refine g_aload_n hC dL_law_990 rfl ?_
    refine g_aload_n hC dL_law_991 rfl ?_
    refine g_iload hC dL_law_992 rfl ?_
    refine g_iconst hC dL_law_994 ?_
    refine g_iadd hC dL_law_995 ?_
    refine g_sld hC hB (by omega) (by omega) hL dL_law_996 ?_
    rw [← ea1]
    refine g_if_eq (tgt := 1004) hC dL_law_997 (by decide) ⟨by omega, by omega⟩ (fun h997 => ?_) (fun h997 => ?_)
    · refine g_iconst hC dL_law_1004 ?_
      refine g_VA hC (kX9_dry (gl X) (gD X) (gac X) G x A la l0 l1 l2 sa ra rp ex ar ms ss ch ds lk g y z _ hW (by omega)) cvX9_dry lkL_117 (by assumption) rfl rfl (Nat.le_of_ble_eq_true rfl) (gfitL hR (by omega) (by omega) (by omega)) dL_law_1005 (fun x1005 sh1005 rf1005 mem1005 hx1005 => ?_)
      obtain ⟨hr9, w9⟩ := hx1005
      rw [hr9]
      obtain ⟨q1, q2, q3⟩ := hS9.mid w9.2
      refine g_re q1 (fun B1 hM1 hB1 hj1 => ?_)
      have hV1 := q2 B1 hB1
      have mo1 := hM1.1
      refine g_aload_n hC dL_law_1008 rfl ?_
      refine g_aload_n hC dL_law_1009 rfl ?_
      refine g_iload hC dL_law_1010 rfl ?_
      refine g_iconst hC dL_law_1012 ?_
      refine g_iadd hC dL_law_1013 ?_
      refine g_sld hC hB (by omega) (by omega) hL dL_law_1014 ?_
      rw [← ea1]
      refine g_if_eq (tgt := 1022) hC dL_law_1015 (by decide) ⟨by omega, by omega⟩ (fun h1015 => ?_) (fun h1015 => ?_)
      · refine g_iconst hC dL_law_1022 ?_
        refine g_VM hC (kX10_dry (gl X) (gD X) (gac X) m B1 rp ex ar ms ss ch ds lk g y z _ hM1 hV1 (by omega)) cvX10_dry lkL_120 (by assumption) rfl rfl (Nat.le_of_ble_eq_true rfl) (gfitL hR (by omega) (by omega) (by omega)) dL_law_1023 (fun x1023 mem1023 hx1023 => ?_)
        obtain ⟨hr8, v2, c2⟩ := hx1023
        rw [hr8]
        refine g_ceq (tgt := 1205) hC dL_law_1026 (by decide) ?_
        exact hK _ _ _ _ _ B1 _ _ _ _ _ _ _ _ _ _ _ _ _ (hS9.next w9 hM1 hB1 hj1 v2 c2 hI) (by omega) (by omega)
      · exfalso; omega
    · exfalso; omega
  · refine g_aload_n hC dL_law_990 rfl ?_
    refine g_aload_n hC dL_law_991 rfl ?_
    refine g_iload hC dL_law_992 rfl ?_
    refine g_iconst hC dL_law_994 ?_
    refine g_iadd hC dL_law_995 ?_
    refine g_sld hC hB (by omega) (by omega) hL dL_law_996 ?_
    rw [← ea1]
    refine g_if_eq (tgt := 1004) hC dL_law_997 (by decide) ⟨by omega, by omega⟩ (fun h997 => ?_) (fun h997 => ?_)
    · exfalso; omega
    · refine g_iconst hC dL_law_1000 ?_
      refine g_goto (tgt := 1005) hC dL_law_1001 (by decide) ?_
      refine g_VA hC (kX9_dry (gl X) (gD X) (gac X) G x A la l0 l1 l2 sa ra rp ex ar ms ss ch ds lk g y z _ hW (by omega)) cvX9_dry lkL_117 (by assumption) rfl rfl (Nat.le_of_ble_eq_true rfl) (gfitL hR (by omega) (by omega) (by omega)) dL_law_1005 (fun x1005 sh1005 rf1005 mem1005 hx1005 => ?_)
      obtain ⟨hr9, w9⟩ := hx1005
      rw [hr9]
      obtain ⟨q1, q2, q3⟩ := hS9.mid w9.2
      refine g_re q1 (fun B1 hM1 hB1 hj1 => ?_)
      have hV1 := q2 B1 hB1
      have mo1 := hM1.1
      refine g_aload_n hC dL_law_1008 rfl ?_
      refine g_aload_n hC dL_law_1009 rfl ?_
      refine g_iload hC dL_law_1010 rfl ?_
      refine g_iconst hC dL_law_1012 ?_
      refine g_iadd hC dL_law_1013 ?_
      refine g_sld hC hB (by omega) (by omega) hL dL_law_1014 ?_
      rw [← ea1]
      refine g_if_eq (tgt := 1022) hC dL_law_1015 (by decide) ⟨by omega, by omega⟩ (fun h1015 => ?_) (fun h1015 => ?_)
      · exfalso; omega
      · refine g_iconst hC dL_law_1018 ?_
        refine g_goto (tgt := 1023) hC dL_law_1019 (by decide) ?_
        refine g_VM hC (kX10_dry (gl X) (gD X) (gac X) m B1 rp ex ar ms ss ch ds lk g y z _ hM1 hV1 (by omega)) cvX10_dry lkL_120 (by assumption) rfl rfl (Nat.le_of_ble_eq_true rfl) (gfitL hR (by omega) (by omega) (by omega)) dL_law_1023 (fun x1023 mem1023 hx1023 => ?_)
        obtain ⟨hr8, v2, c2⟩ := hx1023
        rw [hr8]
        refine g_ceq (tgt := 1205) hC dL_law_1026 (by decide) ?_
        exact hK _ _ _ _ _ B1 _ _ _ _ _ _ _ _ _ _ _ _ _ (hS9.next w9 hM1 hB1 hj1 v2 c2 hI) (by omega) (by omega)
set_option maxHeartbeats 4000000 in
set_option maxRecDepth 100000 in
theorem law_c22 {X : gX} (hC : gC X cL_law RL) (hR : gRm X = room_1) {b L : Nat} {xs : Nat → Int32} (hB : gScr X b L xs) (hL : L ≤ 2560) {G : Nat → Prop} {sh : Nat → Nat × Nat} {rf : Nat → Nat → Option Nat} {mem : Nat → Nat → Int} {x m o : Nat} {A B : Nat → Nat} {rp ex ar : List Int} {ms : List (Option MemT)} {ss : List (Option SetT)} {ch : Lns} {ds : Dfs} {lk : Nat} {g y z : Int} (hS : LSt G sh rf mem x m o A B rp ms ss ch ds lk ex ar g y z) {i cells slots : Nat} (hi : (i : Int) + 5 ≤ L) (hcs : cells ≤ 600000) (hsl : slots ≤ 7200000) {o5 o6 : Option Value} (hK : ∀ (sh1 : Nat → Nat × Nat) (rf1 : Nat → Nat → Option Nat) (mem1 : Nat → Nat → Int) (cells1 slots1 : Nat) (B1 : Nat → Nat) (rp1 ex1 ar1 : List Int) (ms1 : List (Option MemT)) (ss1 : List (Option SetT)) (ch1 : Lns) (ds1 : Dfs) (lk1 : Nat) (g1 y1 z1 : Int) o5 o6, LSt G sh1 rf1 mem1 x m o A B1 rp1 ms1 ss1 ch1 ds1 lk1 ex1 ar1 g1 y1 z1 → cells1 + 4 * ms.length ≤ cells + 4 * ms1.length + 10 → slots1 + 364 * ms.length ≤ slots + 364 * ms1.length + 1000 → gG X sh1 rf1 mem1 cells1 slots1 1205 [some (.ref b), some (.ref x), some (.ref m), some (.ref o), some (.int (iI i)), o5, o6] []) : gG X sh rf mem cells slots 1031 [some (.ref b), some (.ref x), some (.ref m), some (.ref o), some (.int (iI i)), o5, o6] [] := by
  have hS9 := hS
  obtain ⟨⟨la, l0, l1, l2, sa, ra, hW⟩, hM, hV, hG, so, hI, hmo, hbo⟩ := hS
  have ho := hW.1.1
  obtain ⟨kR, kM, kS, kL, kD, klk, kE1, kE2, kA, kT⟩ := hW.ok
  have kC := hI.okC kL
  have kE := hI.2.1
  have kAr := hI.2.2
  obtain ⟨a1, ea1⟩ : ∃ a, a = (xs ((i : Int) + 1).toNat).toInt := ⟨_, rfl⟩
  have r1 : inR a1 := by rw [ea1]; exact inR_of _
  have t1 : -2147483648 ≤ a1 ∧ a1 < 2147483648 := r1
  obtain ⟨a2, ea2⟩ : ∃ a, a = (xs ((i : Int) + 2).toNat).toInt := ⟨_, rfl⟩
  have r2 : inR a2 := by rw [ea2]; exact inR_of _
  have t2 : -2147483648 ≤ a2 ∧ a2 < 2147483648 := r2
  obtain ⟨a3, ea3⟩ : ∃ a, a = (xs ((i : Int) + 3).toNat).toInt := ⟨_, rfl⟩
  have r3 : inR a3 := by rw [ea3]; exact inR_of _
  have t3 : -2147483648 ≤ a3 ∧ a3 < 2147483648 := r3
  obtain ⟨a4, ea4⟩ : ∃ a, a = (xs ((i : Int) + 4).toNat).toInt := ⟨_, rfl⟩
  have r4 : inR a4 := by rw [ea4]; exact inR_of _
  have t4 : -2147483648 ≤ a4 ∧ a4 < 2147483648 := r4
  refine g_aload_n hC dL_law_1031 rfl ?_
  refine g_VP hC (kX9_greatest (gl X) (gD X) (gac X) G x A la l0 l1 l2 sa ra rp ex ar ms ss ch ds lk g y z hW) cvX9_greatest lkL_121 (by assumption) rfl rfl (Nat.le_of_ble_eq_true rfl) (gfitL hR (by omega) (by omega) (by omega)) dL_law_1032 (fun x1032 hx1032 => ?_)
  have w9 : WN G sh rf mem sh rf mem x A rp ms ss ch ds lk ex ar g y z := ⟨⟨la, l0, l1, l2, sa, ra, hW⟩, fun _ _ => Un.rf0⟩
  rw [hx1032]
  obtain ⟨q1, q2, q3⟩ := hS9.mid w9.2
  refine g_re q1 (fun B1 hM1 hB1 hj1 => ?_)
  have hV1 := q2 B1 hB1
  have mo1 := hM1.1
  refine g_aload_n hC dL_law_1035 rfl ?_
  refine g_VM hC (kX10_greatest (gl X) (gD X) (gac X) m B1 rp ex ar ms ss ch ds lk g y z hM1 hV1) cvX10_greatest lkL_124 (by assumption) rfl rfl (Nat.le_of_ble_eq_true rfl) (gfitL hR (by omega) (by omega) (by omega)) dL_law_1036 (fun x1036 mem1036 hx1036 => ?_)
  obtain ⟨hr8, v2, c2⟩ := hx1036
  rw [hr8]
  refine g_ceq (tgt := 1205) hC dL_law_1039 (by decide) ?_
  exact hK _ _ _ _ _ B1 _ _ _ _ _ _ _ _ _ _ _ _ _ (hS9.next w9 hM1 hB1 hj1 v2 c2 hI) (by omega) (by omega)
set_option maxHeartbeats 4000000 in
set_option maxRecDepth 100000 in
theorem law_c23 {X : gX} (hC : gC X cL_law RL) (hR : gRm X = room_1) {b L : Nat} {xs : Nat → Int32} (hB : gScr X b L xs) (hL : L ≤ 2560) {G : Nat → Prop} {sh : Nat → Nat × Nat} {rf : Nat → Nat → Option Nat} {mem : Nat → Nat → Int} {x m o : Nat} {A B : Nat → Nat} {rp ex ar : List Int} {ms : List (Option MemT)} {ss : List (Option SetT)} {ch : Lns} {ds : Dfs} {lk : Nat} {g y z : Int} (hS : LSt G sh rf mem x m o A B rp ms ss ch ds lk ex ar g y z) {i cells slots : Nat} (hi : (i : Int) + 5 ≤ L) (hcs : cells ≤ 600000) (hsl : slots ≤ 7200000) {o5 o6 : Option Value} (hK : ∀ (sh1 : Nat → Nat × Nat) (rf1 : Nat → Nat → Option Nat) (mem1 : Nat → Nat → Int) (cells1 slots1 : Nat) (B1 : Nat → Nat) (rp1 ex1 ar1 : List Int) (ms1 : List (Option MemT)) (ss1 : List (Option SetT)) (ch1 : Lns) (ds1 : Dfs) (lk1 : Nat) (g1 y1 z1 : Int) o5 o6, LSt G sh1 rf1 mem1 x m o A B1 rp1 ms1 ss1 ch1 ds1 lk1 ex1 ar1 g1 y1 z1 → cells1 + 4 * ms.length ≤ cells + 4 * ms1.length + 10 → slots1 + 364 * ms.length ≤ slots + 364 * ms1.length + 1000 → gG X sh1 rf1 mem1 cells1 slots1 1205 [some (.ref b), some (.ref x), some (.ref m), some (.ref o), some (.int (iI i)), o5, o6] []) : gG X sh rf mem cells slots 1044 [some (.ref b), some (.ref x), some (.ref m), some (.ref o), some (.int (iI i)), o5, o6] [] := by
  have hS9 := hS
  obtain ⟨⟨la, l0, l1, l2, sa, ra, hW⟩, hM, hV, hG, so, hI, hmo, hbo⟩ := hS
  have ho := hW.1.1
  obtain ⟨kR, kM, kS, kL, kD, klk, kE1, kE2, kA, kT⟩ := hW.ok
  have kC := hI.okC kL
  have kE := hI.2.1
  have kAr := hI.2.2
  obtain ⟨a1, ea1⟩ : ∃ a, a = (xs ((i : Int) + 1).toNat).toInt := ⟨_, rfl⟩
  have r1 : inR a1 := by rw [ea1]; exact inR_of _
  have t1 : -2147483648 ≤ a1 ∧ a1 < 2147483648 := r1
  obtain ⟨a2, ea2⟩ : ∃ a, a = (xs ((i : Int) + 2).toNat).toInt := ⟨_, rfl⟩
  have r2 : inR a2 := by rw [ea2]; exact inR_of _
  have t2 : -2147483648 ≤ a2 ∧ a2 < 2147483648 := r2
  obtain ⟨a3, ea3⟩ : ∃ a, a = (xs ((i : Int) + 3).toNat).toInt := ⟨_, rfl⟩
  have r3 : inR a3 := by rw [ea3]; exact inR_of _
  have t3 : -2147483648 ≤ a3 ∧ a3 < 2147483648 := r3
  obtain ⟨a4, ea4⟩ : ∃ a, a = (xs ((i : Int) + 4).toNat).toInt := ⟨_, rfl⟩
  have r4 : inR a4 := by rw [ea4]; exact inR_of _
  have t4 : -2147483648 ≤ a4 ∧ a4 < 2147483648 := r4
  refine g_aload_n hC dL_law_1044 rfl ?_
  refine g_VA hC (kX9_step (gl X) (gD X) (gac X) G x A la l0 l1 l2 sa ra rp ex ar ms ss ch ds lk g y z hW) cvX9_step lkL_125 (by assumption) rfl rfl (Nat.le_of_ble_eq_true rfl) (gfitL hR (by omega) (by omega) (by omega)) dL_law_1045 (fun x1045 sh1045 rf1045 mem1045 hx1045 => ?_)
  obtain ⟨hr9, w9⟩ := hx1045
  rw [hr9]
  obtain ⟨q1, q2, q3⟩ := hS9.mid w9.2
  refine g_re q1 (fun B1 hM1 hB1 hj1 => ?_)
  have hV1 := q2 B1 hB1
  have mo1 := hM1.1
  refine g_aload_n hC dL_law_1048 rfl ?_
  refine g_VM hC (kX10_step (gl X) (gD X) (gac X) m B1 rp ex ar ms ss ch ds lk g y z hM1 hV1) cvX10_step lkL_128 (by assumption) rfl rfl (Nat.le_of_ble_eq_true rfl) (gfitL hR (by omega) (by omega) (by omega)) dL_law_1049 (fun x1049 mem1049 hx1049 => ?_)
  obtain ⟨hr8, v2, c2⟩ := hx1049
  rw [hr8]
  refine g_ceq (tgt := 1205) hC dL_law_1052 (by decide) ?_
  exact hK _ _ _ _ _ B1 _ _ _ _ _ _ _ _ _ _ _ _ _ (hS9.next w9 hM1 hB1 hj1 v2 c2 hI) (by omega) (by omega)
set_option maxHeartbeats 4000000 in
set_option maxRecDepth 100000 in
theorem law_c24 {X : gX} (hC : gC X cL_law RL) (hR : gRm X = room_1) {b L : Nat} {xs : Nat → Int32} (hB : gScr X b L xs) (hL : L ≤ 2560) {G : Nat → Prop} {sh : Nat → Nat × Nat} {rf : Nat → Nat → Option Nat} {mem : Nat → Nat → Int} {x m o : Nat} {A B : Nat → Nat} {rp ex ar : List Int} {ms : List (Option MemT)} {ss : List (Option SetT)} {ch : Lns} {ds : Dfs} {lk : Nat} {g y z : Int} (hS : LSt G sh rf mem x m o A B rp ms ss ch ds lk ex ar g y z) {i cells slots : Nat} (hi : (i : Int) + 5 ≤ L) (hcs : cells ≤ 600000) (hsl : slots ≤ 7200000) {o5 o6 : Option Value} (hK : ∀ (sh1 : Nat → Nat × Nat) (rf1 : Nat → Nat → Option Nat) (mem1 : Nat → Nat → Int) (cells1 slots1 : Nat) (B1 : Nat → Nat) (rp1 ex1 ar1 : List Int) (ms1 : List (Option MemT)) (ss1 : List (Option SetT)) (ch1 : Lns) (ds1 : Dfs) (lk1 : Nat) (g1 y1 z1 : Int) o5 o6, LSt G sh1 rf1 mem1 x m o A B1 rp1 ms1 ss1 ch1 ds1 lk1 ex1 ar1 g1 y1 z1 → cells1 + 4 * ms.length ≤ cells + 4 * ms1.length + 10 → slots1 + 364 * ms.length ≤ slots + 364 * ms1.length + 1000 → gG X sh1 rf1 mem1 cells1 slots1 1205 [some (.ref b), some (.ref x), some (.ref m), some (.ref o), some (.int (iI i)), o5, o6] []) : gG X sh rf mem cells slots 1057 [some (.ref b), some (.ref x), some (.ref m), some (.ref o), some (.int (iI i)), o5, o6] [] := by
  have hS9 := hS
  obtain ⟨⟨la, l0, l1, l2, sa, ra, hW⟩, hM, hV, hG, so, hI, hmo, hbo⟩ := hS
  have ho := hW.1.1
  obtain ⟨kR, kM, kS, kL, kD, klk, kE1, kE2, kA, kT⟩ := hW.ok
  have kC := hI.okC kL
  have kE := hI.2.1
  have kAr := hI.2.2
  obtain ⟨a1, ea1⟩ : ∃ a, a = (xs ((i : Int) + 1).toNat).toInt := ⟨_, rfl⟩
  have r1 : inR a1 := by rw [ea1]; exact inR_of _
  have t1 : -2147483648 ≤ a1 ∧ a1 < 2147483648 := r1
  obtain ⟨a2, ea2⟩ : ∃ a, a = (xs ((i : Int) + 2).toNat).toInt := ⟨_, rfl⟩
  have r2 : inR a2 := by rw [ea2]; exact inR_of _
  have t2 : -2147483648 ≤ a2 ∧ a2 < 2147483648 := r2
  obtain ⟨a3, ea3⟩ : ∃ a, a = (xs ((i : Int) + 3).toNat).toInt := ⟨_, rfl⟩
  have r3 : inR a3 := by rw [ea3]; exact inR_of _
  have t3 : -2147483648 ≤ a3 ∧ a3 < 2147483648 := r3
  obtain ⟨a4, ea4⟩ : ∃ a, a = (xs ((i : Int) + 4).toNat).toInt := ⟨_, rfl⟩
  have r4 : inR a4 := by rw [ea4]; exact inR_of _
  have t4 : -2147483648 ≤ a4 ∧ a4 < 2147483648 := r4
  refine g_aload_n hC dL_law_1057 rfl ?_
  refine g_aload_n hC dL_law_1058 rfl ?_
  refine g_iload hC dL_law_1059 rfl ?_
  refine g_iconst hC dL_law_1061 ?_
  refine g_iadd hC dL_law_1062 ?_
  refine g_sld hC hB (by omega) (by omega) hL dL_law_1063 ?_
  rw [← ea1]
  refine g_aload_n hC dL_law_1064 rfl ?_
  refine g_iload hC dL_law_1065 rfl ?_
  refine g_iconst hC dL_law_1067 ?_
  refine g_iadd hC dL_law_1068 ?_
  refine g_sld hC hB (by omega) (by omega) hL dL_law_1069 ?_
  rw [← ea2]
  refine g_VP hC (kX9_find (gl X) (gD X) (gac X) G x A la l0 l1 l2 sa ra rp ex ar ms ss ch ds lk g y z a1 a2 hW r1 r2) cvX9_find lkL_129 (by assumption) rfl rfl (Nat.le_of_ble_eq_true rfl) (gfitL hR (by omega) (by omega) (by omega)) dL_law_1070 (fun x1070 hx1070 => ?_)
  have w9 : WN G sh rf mem sh rf mem x A rp ms ss ch ds lk ex ar g y z := ⟨⟨la, l0, l1, l2, sa, ra, hW⟩, fun _ _ => Un.rf0⟩
  subst hx1070
  obtain ⟨q1, q2, q3⟩ := hS9.mid w9.2
  refine g_re q1 (fun B1 hM1 hB1 hj1 => ?_)
  have hV1 := q2 B1 hB1
  have mo1 := hM1.1
  refine g_aload_n hC dL_law_1073 rfl ?_
  refine g_aload_n hC dL_law_1074 rfl ?_
  refine g_iload hC dL_law_1075 rfl ?_
  refine g_iconst hC dL_law_1077 ?_
  refine g_iadd hC dL_law_1078 ?_
  refine g_sld hC hB (by omega) (by omega) hL dL_law_1079 ?_
  rw [← ea1]
  refine g_aload_n hC dL_law_1080 rfl ?_
  refine g_iload hC dL_law_1081 rfl ?_
  refine g_iconst hC dL_law_1083 ?_
  refine g_iadd hC dL_law_1084 ?_
  refine g_sld hC hB (by omega) (by omega) hL dL_law_1085 ?_
  rw [← ea2]
  refine g_VM hC (kX10_find (gl X) (gD X) (gac X) m B1 rp ex ar ms ss ch ds lk g y z a1 a2 hM1 hV1 kR kM r1 r2) cvX10_find lkL_132 (by assumption) rfl rfl (Nat.le_of_ble_eq_true rfl) (gfitL hR (by omega) (by omega) (by omega)) dL_law_1086 (fun x1086 mem1086 hx1086 => ?_)
  obtain ⟨hr8, v2, c2⟩ := hx1086
  subst hr8
  refine g_ceq (tgt := 1205) hC dL_law_1089 (by decide) ?_
  exact hK _ _ _ _ _ B1 _ _ _ _ _ _ _ _ _ _ _ _ _ (hS9.next w9 hM1 hB1 hj1 v2 c2 hI) (by omega) (by omega)
set_option maxHeartbeats 4000000 in
set_option maxRecDepth 100000 in
theorem law_c25 {X : gX} (hC : gC X cL_law RL) (hR : gRm X = room_1) {b L : Nat} {xs : Nat → Int32} (hB : gScr X b L xs) (hL : L ≤ 2560) {G : Nat → Prop} {sh : Nat → Nat × Nat} {rf : Nat → Nat → Option Nat} {mem : Nat → Nat → Int} {x m o : Nat} {A B : Nat → Nat} {rp ex ar : List Int} {ms : List (Option MemT)} {ss : List (Option SetT)} {ch : Lns} {ds : Dfs} {lk : Nat} {g y z : Int} (hS : LSt G sh rf mem x m o A B rp ms ss ch ds lk ex ar g y z) {i cells slots : Nat} (hi : (i : Int) + 5 ≤ L) (hcs : cells ≤ 600000) (hsl : slots ≤ 7200000) {o5 o6 : Option Value} (hK : ∀ (sh1 : Nat → Nat × Nat) (rf1 : Nat → Nat → Option Nat) (mem1 : Nat → Nat → Int) (cells1 slots1 : Nat) (B1 : Nat → Nat) (rp1 ex1 ar1 : List Int) (ms1 : List (Option MemT)) (ss1 : List (Option SetT)) (ch1 : Lns) (ds1 : Dfs) (lk1 : Nat) (g1 y1 z1 : Int) o5 o6, LSt G sh1 rf1 mem1 x m o A B1 rp1 ms1 ss1 ch1 ds1 lk1 ex1 ar1 g1 y1 z1 → cells1 + 4 * ms.length ≤ cells + 4 * ms1.length + 10 → slots1 + 364 * ms.length ≤ slots + 364 * ms1.length + 1000 → gG X sh1 rf1 mem1 cells1 slots1 1205 [some (.ref b), some (.ref x), some (.ref m), some (.ref o), some (.int (iI i)), o5, o6] []) : gG X sh rf mem cells slots 1094 [some (.ref b), some (.ref x), some (.ref m), some (.ref o), some (.int (iI i)), o5, o6] [] := by
  have hS9 := hS
  obtain ⟨⟨la, l0, l1, l2, sa, ra, hW⟩, hM, hV, hG, so, hI, hmo, hbo⟩ := hS
  have ho := hW.1.1
  obtain ⟨kR, kM, kS, kL, kD, klk, kE1, kE2, kA, kT⟩ := hW.ok
  have kC := hI.okC kL
  have kE := hI.2.1
  have kAr := hI.2.2
  obtain ⟨a1, ea1⟩ : ∃ a, a = (xs ((i : Int) + 1).toNat).toInt := ⟨_, rfl⟩
  have r1 : inR a1 := by rw [ea1]; exact inR_of _
  have t1 : -2147483648 ≤ a1 ∧ a1 < 2147483648 := r1
  obtain ⟨a2, ea2⟩ : ∃ a, a = (xs ((i : Int) + 2).toNat).toInt := ⟨_, rfl⟩
  have r2 : inR a2 := by rw [ea2]; exact inR_of _
  have t2 : -2147483648 ≤ a2 ∧ a2 < 2147483648 := r2
  obtain ⟨a3, ea3⟩ : ∃ a, a = (xs ((i : Int) + 3).toNat).toInt := ⟨_, rfl⟩
  have r3 : inR a3 := by rw [ea3]; exact inR_of _
  have t3 : -2147483648 ≤ a3 ∧ a3 < 2147483648 := r3
  obtain ⟨a4, ea4⟩ : ∃ a, a = (xs ((i : Int) + 4).toNat).toInt := ⟨_, rfl⟩
  have r4 : inR a4 := by rw [ea4]; exact inR_of _
  have t4 : -2147483648 ≤ a4 ∧ a4 < 2147483648 := r4
  refine g_aload_n hC dL_law_1094 rfl ?_
  refine g_aload_n hC dL_law_1095 rfl ?_
  refine g_iload hC dL_law_1096 rfl ?_
  refine g_iconst hC dL_law_1098 ?_
  refine g_iadd hC dL_law_1099 ?_
  refine g_sld hC hB (by omega) (by omega) hL dL_law_1100 ?_
  rw [← ea1]
  refine g_aload_n hC dL_law_1101 rfl ?_
  refine g_iload hC dL_law_1102 rfl ?_
  refine g_iconst hC dL_law_1104 ?_
  refine g_iadd hC dL_law_1105 ?_
  refine g_sld hC hB (by omega) (by omega) hL dL_law_1106 ?_
  rw [← ea2]
  refine g_aload_n hC dL_law_1107 rfl ?_
  refine g_iload hC dL_law_1108 rfl ?_
  refine g_iconst hC dL_law_1110 ?_
  refine g_iadd hC dL_law_1111 ?_
  refine g_sld hC hB (by omega) (by omega) hL dL_law_1112 ?_
  rw [← ea3]
  refine g_VP hC (kX9_letter (gl X) (gD X) (gac X) G x A la l0 l1 l2 sa ra rp ex ar ms ss ch ds lk g y z a1 a2 a3 hW r1 r2 r3) cvX9_letter lkL_133 (by assumption) rfl rfl (Nat.le_of_ble_eq_true rfl) (gfitL hR (by omega) (by omega) (by omega)) dL_law_1113 (fun x1113 hx1113 => ?_)
  have w9 : WN G sh rf mem sh rf mem x A rp ms ss ch ds lk ex ar g y z := ⟨⟨la, l0, l1, l2, sa, ra, hW⟩, fun _ _ => Un.rf0⟩
  subst hx1113
  obtain ⟨q1, q2, q3⟩ := hS9.mid w9.2
  refine g_re q1 (fun B1 hM1 hB1 hj1 => ?_)
  have hV1 := q2 B1 hB1
  have mo1 := hM1.1
  refine g_aload_n hC dL_law_1116 rfl ?_
  refine g_aload_n hC dL_law_1117 rfl ?_
  refine g_iload hC dL_law_1118 rfl ?_
  refine g_iconst hC dL_law_1120 ?_
  refine g_iadd hC dL_law_1121 ?_
  refine g_sld hC hB (by omega) (by omega) hL dL_law_1122 ?_
  rw [← ea1]
  refine g_aload_n hC dL_law_1123 rfl ?_
  refine g_iload hC dL_law_1124 rfl ?_
  refine g_iconst hC dL_law_1126 ?_
  refine g_iadd hC dL_law_1127 ?_
  refine g_sld hC hB (by omega) (by omega) hL dL_law_1128 ?_
  rw [← ea2]
  refine g_aload_n hC dL_law_1129 rfl ?_
  refine g_iload hC dL_law_1130 rfl ?_
  refine g_iconst hC dL_law_1132 ?_
  refine g_iadd hC dL_law_1133 ?_
  refine g_sld hC hB (by omega) (by omega) hL dL_law_1134 ?_
  rw [← ea3]
  refine g_VM hC (kX10_letter (gl X) (gD X) (gac X) m B1 rp ex ar ms ss ch ds lk g y z a1 a2 a3 hM1 hV1 kM r1 r2 r3) cvX10_letter lkL_137 (by assumption) rfl rfl (Nat.le_of_ble_eq_true rfl) (gfitL hR (by omega) (by omega) (by omega)) dL_law_1135 (fun x1135 mem1135 hx1135 => ?_)
  obtain ⟨hr8, v2, c2⟩ := hx1135
  subst hr8
  refine g_ceq (tgt := 1205) hC dL_law_1138 (by decide) ?_
  exact hK _ _ _ _ _ B1 _ _ _ _ _ _ _ _ _ _ _ _ _ (hS9.next w9 hM1 hB1 hj1 v2 c2 hI) (by omega) (by omega)
set_option maxHeartbeats 4000000 in
set_option maxRecDepth 100000 in
theorem law_c26 {X : gX} (hC : gC X cL_law RL) (hR : gRm X = room_1) {b L : Nat} {xs : Nat → Int32} (hB : gScr X b L xs) (hL : L ≤ 2560) {G : Nat → Prop} {sh : Nat → Nat × Nat} {rf : Nat → Nat → Option Nat} {mem : Nat → Nat → Int} {x m o : Nat} {A B : Nat → Nat} {rp ex ar : List Int} {ms : List (Option MemT)} {ss : List (Option SetT)} {ch : Lns} {ds : Dfs} {lk : Nat} {g y z : Int} (hS : LSt G sh rf mem x m o A B rp ms ss ch ds lk ex ar g y z) {i cells slots : Nat} (hi : (i : Int) + 5 ≤ L) (hcs : cells ≤ 600000) (hsl : slots ≤ 7200000) {o5 o6 : Option Value} (hK : ∀ (sh1 : Nat → Nat × Nat) (rf1 : Nat → Nat → Option Nat) (mem1 : Nat → Nat → Int) (cells1 slots1 : Nat) (B1 : Nat → Nat) (rp1 ex1 ar1 : List Int) (ms1 : List (Option MemT)) (ss1 : List (Option SetT)) (ch1 : Lns) (ds1 : Dfs) (lk1 : Nat) (g1 y1 z1 : Int) o5 o6, LSt G sh1 rf1 mem1 x m o A B1 rp1 ms1 ss1 ch1 ds1 lk1 ex1 ar1 g1 y1 z1 → cells1 + 4 * ms.length ≤ cells + 4 * ms1.length + 10 → slots1 + 364 * ms.length ≤ slots + 364 * ms1.length + 1000 → gG X sh1 rf1 mem1 cells1 slots1 1205 [some (.ref b), some (.ref x), some (.ref m), some (.ref o), some (.int (iI i)), o5, o6] []) : gG X sh rf mem cells slots 1143 [some (.ref b), some (.ref x), some (.ref m), some (.ref o), some (.int (iI i)), o5, o6] [] := by
  have hS9 := hS
  obtain ⟨⟨la, l0, l1, l2, sa, ra, hW⟩, hM, hV, hG, so, hI, hmo, hbo⟩ := hS
  have ho := hW.1.1
  obtain ⟨kR, kM, kS, kL, kD, klk, kE1, kE2, kA, kT⟩ := hW.ok
  have kC := hI.okC kL
  have kE := hI.2.1
  have kAr := hI.2.2
  obtain ⟨a1, ea1⟩ : ∃ a, a = (xs ((i : Int) + 1).toNat).toInt := ⟨_, rfl⟩
  have r1 : inR a1 := by rw [ea1]; exact inR_of _
  have t1 : -2147483648 ≤ a1 ∧ a1 < 2147483648 := r1
  obtain ⟨a2, ea2⟩ : ∃ a, a = (xs ((i : Int) + 2).toNat).toInt := ⟨_, rfl⟩
  have r2 : inR a2 := by rw [ea2]; exact inR_of _
  have t2 : -2147483648 ≤ a2 ∧ a2 < 2147483648 := r2
  obtain ⟨a3, ea3⟩ : ∃ a, a = (xs ((i : Int) + 3).toNat).toInt := ⟨_, rfl⟩
  have r3 : inR a3 := by rw [ea3]; exact inR_of _
  have t3 : -2147483648 ≤ a3 ∧ a3 < 2147483648 := r3
  obtain ⟨a4, ea4⟩ : ∃ a, a = (xs ((i : Int) + 4).toNat).toInt := ⟨_, rfl⟩
  have r4 : inR a4 := by rw [ea4]; exact inR_of _
  have t4 : -2147483648 ≤ a4 ∧ a4 < 2147483648 := r4
  refine g_aload_n hC dL_law_1143 rfl ?_
  refine g_aload_n hC dL_law_1144 rfl ?_
  refine g_iload hC dL_law_1145 rfl ?_
  refine g_iconst hC dL_law_1147 ?_
  refine g_iadd hC dL_law_1148 ?_
  refine g_sld hC hB (by omega) (by omega) hL dL_law_1149 ?_
  rw [← ea1]
  refine g_aload_n hC dL_law_1150 rfl ?_
  refine g_iload hC dL_law_1151 rfl ?_
  refine g_iconst hC dL_law_1153 ?_
  refine g_iadd hC dL_law_1154 ?_
  refine g_sld hC hB (by omega) (by omega) hL dL_law_1155 ?_
  rw [← ea2]
  refine g_VP hC (kX9_set (gl X) (gD X) (gac X) G x A la l0 l1 l2 sa ra rp ex ar ms ss ch ds lk g y z a1 a2 hW r1 r2) cvX9_set lkL_138 (by assumption) rfl rfl (Nat.le_of_ble_eq_true rfl) (gfitL hR (by omega) (by omega) (by omega)) dL_law_1156 (fun x1156 hx1156 => ?_)
  have w9 : WN G sh rf mem sh rf mem x A rp ms ss ch ds lk ex ar g y z := ⟨⟨la, l0, l1, l2, sa, ra, hW⟩, fun _ _ => Un.rf0⟩
  subst hx1156
  obtain ⟨q1, q2, q3⟩ := hS9.mid w9.2
  refine g_re q1 (fun B1 hM1 hB1 hj1 => ?_)
  have hV1 := q2 B1 hB1
  have mo1 := hM1.1
  refine g_aload_n hC dL_law_1159 rfl ?_
  refine g_aload_n hC dL_law_1160 rfl ?_
  refine g_iload hC dL_law_1161 rfl ?_
  refine g_iconst hC dL_law_1163 ?_
  refine g_iadd hC dL_law_1164 ?_
  refine g_sld hC hB (by omega) (by omega) hL dL_law_1165 ?_
  rw [← ea1]
  refine g_aload_n hC dL_law_1166 rfl ?_
  refine g_iload hC dL_law_1167 rfl ?_
  refine g_iconst hC dL_law_1169 ?_
  refine g_iadd hC dL_law_1170 ?_
  refine g_sld hC hB (by omega) (by omega) hL dL_law_1171 ?_
  rw [← ea2]
  refine g_VM hC (kX10_set (gl X) (gD X) (gac X) m B1 rp ex ar ms ss ch ds lk g y z a1 a2 hM1 hV1 kS r1 r2) cvX10_set lkL_141 (by assumption) rfl rfl (Nat.le_of_ble_eq_true rfl) (gfitL hR (by omega) (by omega) (by omega)) dL_law_1172 (fun x1172 mem1172 hx1172 => ?_)
  obtain ⟨hr8, v2, c2⟩ := hx1172
  subst hr8
  refine g_ceq (tgt := 1205) hC dL_law_1175 (by decide) ?_
  exact hK _ _ _ _ _ B1 _ _ _ _ _ _ _ _ _ _ _ _ _ (hS9.next w9 hM1 hB1 hj1 v2 c2 hI) (by omega) (by omega)
set_option maxHeartbeats 4000000 in
set_option maxRecDepth 100000 in
theorem law_c27 {X : gX} (hC : gC X cL_law RL) (hR : gRm X = room_1) {b L : Nat} {xs : Nat → Int32} (hB : gScr X b L xs) (hL : L ≤ 2560) {G : Nat → Prop} {sh : Nat → Nat × Nat} {rf : Nat → Nat → Option Nat} {mem : Nat → Nat → Int} {x m o : Nat} {A B : Nat → Nat} {rp ex ar : List Int} {ms : List (Option MemT)} {ss : List (Option SetT)} {ch : Lns} {ds : Dfs} {lk : Nat} {g y z : Int} (hS : LSt G sh rf mem x m o A B rp ms ss ch ds lk ex ar g y z) {i cells slots : Nat} (hi : (i : Int) + 5 ≤ L) (hcs : cells ≤ 600000) (hsl : slots ≤ 7200000) {o5 o6 : Option Value} (hK : ∀ (sh1 : Nat → Nat × Nat) (rf1 : Nat → Nat → Option Nat) (mem1 : Nat → Nat → Int) (cells1 slots1 : Nat) (B1 : Nat → Nat) (rp1 ex1 ar1 : List Int) (ms1 : List (Option MemT)) (ss1 : List (Option SetT)) (ch1 : Lns) (ds1 : Dfs) (lk1 : Nat) (g1 y1 z1 : Int) o5 o6, LSt G sh1 rf1 mem1 x m o A B1 rp1 ms1 ss1 ch1 ds1 lk1 ex1 ar1 g1 y1 z1 → cells1 + 4 * ms.length ≤ cells + 4 * ms1.length + 10 → slots1 + 364 * ms.length ≤ slots + 364 * ms1.length + 1000 → gG X sh1 rf1 mem1 cells1 slots1 1205 [some (.ref b), some (.ref x), some (.ref m), some (.ref o), some (.int (iI i)), o5, o6] []) : gG X sh rf mem cells slots 1180 [some (.ref b), some (.ref x), some (.ref m), some (.ref o), some (.int (iI i)), o5, o6] [] := by
  have hS9 := hS
  obtain ⟨⟨la, l0, l1, l2, sa, ra, hW⟩, hM, hV, hG, so, hI, hmo, hbo⟩ := hS
  have ho := hW.1.1
  obtain ⟨kR, kM, kS, kL, kD, klk, kE1, kE2, kA, kT⟩ := hW.ok
  have kC := hI.okC kL
  have kE := hI.2.1
  have kAr := hI.2.2
  obtain ⟨a1, ea1⟩ : ∃ a, a = (xs ((i : Int) + 1).toNat).toInt := ⟨_, rfl⟩
  have r1 : inR a1 := by rw [ea1]; exact inR_of _
  have t1 : -2147483648 ≤ a1 ∧ a1 < 2147483648 := r1
  obtain ⟨a2, ea2⟩ : ∃ a, a = (xs ((i : Int) + 2).toNat).toInt := ⟨_, rfl⟩
  have r2 : inR a2 := by rw [ea2]; exact inR_of _
  have t2 : -2147483648 ≤ a2 ∧ a2 < 2147483648 := r2
  obtain ⟨a3, ea3⟩ : ∃ a, a = (xs ((i : Int) + 3).toNat).toInt := ⟨_, rfl⟩
  have r3 : inR a3 := by rw [ea3]; exact inR_of _
  have t3 : -2147483648 ≤ a3 ∧ a3 < 2147483648 := r3
  obtain ⟨a4, ea4⟩ : ∃ a, a = (xs ((i : Int) + 4).toNat).toInt := ⟨_, rfl⟩
  have r4 : inR a4 := by rw [ea4]; exact inR_of _
  have t4 : -2147483648 ≤ a4 ∧ a4 < 2147483648 := r4
  refine g_aload_n hC dL_law_1180 rfl ?_
  refine g_aload_n hC dL_law_1181 rfl ?_
  refine g_iload hC dL_law_1182 rfl ?_
  refine g_iconst hC dL_law_1184 ?_
  refine g_iadd hC dL_law_1185 ?_
  refine g_sld hC hB (by omega) (by omega) hL dL_law_1186 ?_
  rw [← ea1]
  refine g_VP hC (kX9_count (gl X) (gD X) (gac X) G x A la l0 l1 l2 sa ra rp ex ar ms ss ch ds lk g y z a1 hW r1) cvX9_count lkL_142 (by assumption) rfl rfl (Nat.le_of_ble_eq_true rfl) (gfitL hR (by omega) (by omega) (by omega)) dL_law_1187 (fun x1187 hx1187 => ?_)
  have w9 : WN G sh rf mem sh rf mem x A rp ms ss ch ds lk ex ar g y z := ⟨⟨la, l0, l1, l2, sa, ra, hW⟩, fun _ _ => Un.rf0⟩
  subst hx1187
  obtain ⟨q1, q2, q3⟩ := hS9.mid w9.2
  refine g_re q1 (fun B1 hM1 hB1 hj1 => ?_)
  have hV1 := q2 B1 hB1
  have mo1 := hM1.1
  refine g_aload_n hC dL_law_1190 rfl ?_
  refine g_aload_n hC dL_law_1191 rfl ?_
  refine g_iload hC dL_law_1192 rfl ?_
  refine g_iconst hC dL_law_1194 ?_
  refine g_iadd hC dL_law_1195 ?_
  refine g_sld hC hB (by omega) (by omega) hL dL_law_1196 ?_
  rw [← ea1]
  refine g_VM hC (kX10_count (gl X) (gD X) (gac X) m B1 rp ex ar ms ss ch ds lk g y z a1 hM1 hV1 r1) cvX10_count lkL_145 (by assumption) rfl rfl (Nat.le_of_ble_eq_true rfl) (gfitL hR (by omega) (by omega) (by omega)) dL_law_1197 (fun x1197 mem1197 hx1197 => ?_)
  obtain ⟨hr8, v2, c2⟩ := hx1197
  subst hr8
  refine g_ceq (tgt := 1205) hC dL_law_1200 (by decide) ?_
  exact hK _ _ _ _ _ B1 _ _ _ _ _ _ _ _ _ _ _ _ _ (hS9.next w9 hM1 hB1 hj1 v2 c2 hI) (by omega) (by omega)
