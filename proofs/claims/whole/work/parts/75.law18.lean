section LO
variable {G : Nat → Prop} {sh : Nat → Nat × Nat} {rf : Nat → Nat → Option Nat} {mem : Nat → Nat → Int} {x m o : Nat} {A B : Nat → Nat} {rp ex ar : List Int} {ms : List (Option MemT)} {ss : List (Option SetT)} {ch : Lns} {ds : Dfs} {lk : Nat} {g y z : Int}
theorem LSt.out {v : Int} (h : LSt G sh rf mem x m o A B rp ms ss ch ds lk ex ar g y z) : LSt G sh rf (gup mem o 0 v) x m o A B rp ms ss ch ds lk ex ar g y z := by
  obtain ⟨⟨la, l0, l1, l2, sa, ra, hW⟩, hM, hV, ⟨gm, go, gB⟩, so, hI, mo, bo⟩ := h
  have ne : ∀ b, b ≠ o → gup mem o 0 v b = mem b := fun b hb => by
    funext j
    rw [gup_a _ _ _ _ hb]
  refine ⟨⟨la, l0, l1, l2, sa, ra, hW.mems (fun b hb _ => ne b (fun e => hb (e ▸ go)))⟩, hM, hV.re (fun f hf => ne _ (bo f hf)) (ne m mo), ⟨gm, go, gB⟩, so, hI, mo, bo⟩
end LO
/-- the helper of the law: it answers 1 where the class throws, else it keeps the byte and answers 0 -/
def OctC (X : gX) : Prop := ∀ (G : Nat → Prop) (sh : Nat → Nat × Nat) (rf : Nat → Nat → Option Nat) (mem : Nat → Nat → Int) (x m o : Nat) (A B : Nat → Nat) (rp ex ar : List Int) (ms : List (Option MemT)) (ss : List (Option SetT)) (ch : Lns) (ds : Dfs) (lk : Nat) (g y z a1 : Int) (cells slots : Nat) (lv : List (Option Value)), LSt G sh rf mem x m o A B rp ms ss ch ds lk ex ar g y z → inR a1 → cells ≤ 600000 → slots ≤ 7200000 → (∀ (r : Int) (mem1 : Nat → Nat → Int), ((¬ (0 ≤ a1 ∧ a1 < ex.length) ∧ r = 1 ∧ mem1 = mem) ∨ ((0 ≤ a1 ∧ a1 < ex.length) ∧ r = 0 ∧ mem1 = gup mem o 0 (sb (ex.getD a1.toNat 0)))) → gG X sh rf mem1 (cells + 1) (slots + 6) 881 lv [.int (iI r)]) → gG X sh rf mem cells slots 878 lv [.ref o, .int (iI a1), .ref x]
set_option maxHeartbeats 4000000 in
set_option maxRecDepth 100000 in
theorem law_c18 {X : gX} (hC : gC X cL_law RL) (hR : gRm X = room_1) {b L : Nat} {xs : Nat → Int32} (hB : gScr X b L xs) (hL : L ≤ 2560) {G : Nat → Prop} {sh : Nat → Nat × Nat} {rf : Nat → Nat → Option Nat} {mem : Nat → Nat → Int} {x m o : Nat} {A B : Nat → Nat} {rp ex ar : List Int} {ms : List (Option MemT)} {ss : List (Option SetT)} {ch : Lns} {ds : Dfs} {lk : Nat} {g y z : Int} (hS : LSt G sh rf mem x m o A B rp ms ss ch ds lk ex ar g y z) {i cells slots : Nat} (hi : (i : Int) + 5 ≤ L) (hcs : cells ≤ 600000) (hsl : slots ≤ 7200000) {o5 o6 : Option Value} (hO : OctC X) (hK : ∀ (sh1 : Nat → Nat × Nat) (rf1 : Nat → Nat → Option Nat) (mem1 : Nat → Nat → Int) (cells1 slots1 : Nat) (B1 : Nat → Nat) (rp1 ex1 ar1 : List Int) (ms1 : List (Option MemT)) (ss1 : List (Option SetT)) (ch1 : Lns) (ds1 : Dfs) (lk1 : Nat) (g1 y1 z1 : Int) o5 o6, LSt G sh1 rf1 mem1 x m o A B1 rp1 ms1 ss1 ch1 ds1 lk1 ex1 ar1 g1 y1 z1 → cells1 + 4 * ms.length ≤ cells + 4 * ms1.length + 10 → slots1 + 364 * ms.length ≤ slots + 364 * ms1.length + 1000 → gG X sh1 rf1 mem1 cells1 slots1 1205 [some (.ref b), some (.ref x), some (.ref m), some (.ref o), some (.int (iI i)), o5, o6] []) : gG X sh rf mem cells slots 870 [some (.ref b), some (.ref x), some (.ref m), some (.ref o), some (.int (iI i)), o5, o6] [] := by
  have hS9 := hS
  obtain ⟨⟨la, l0, l1, l2, sa, ra, hW⟩, hM, hV, hG, so, hI, hmo, hbo⟩ := hS
  have ho := hW.1.1
  obtain ⟨kR, kM, kS, kL, kD, klk, kE1, kE2, kA, kT⟩ := hW.ok
  have kC := hI.okC kL
  have kE := hI.2.1
  have kAr := hI.2.2
  obtain ⟨a1, ea1⟩ : ∃ a, a = (xs ((i : Int) + 1).toNat).toInt := ⟨_, rfl⟩
  have r1 : inR a1 := by rw [ea1]; exact inR_of _
  have t1 : -2147483648 ≤ a1 ∧ a1 < 2147483648 := r1
  obtain ⟨a2, ea2⟩ : ∃ a, a = (xs ((i : Int) + 2).toNat).toInt := ⟨_, rfl⟩
  have r2 : inR a2 := by rw [ea2]; exact inR_of _
  have t2 : -2147483648 ≤ a2 ∧ a2 < 2147483648 := r2
  obtain ⟨a3, ea3⟩ : ∃ a, a = (xs ((i : Int) + 3).toNat).toInt := ⟨_, rfl⟩
  have r3 : inR a3 := by rw [ea3]; exact inR_of _
  have t3 : -2147483648 ≤ a3 ∧ a3 < 2147483648 := r3
  obtain ⟨a4, ea4⟩ : ∃ a, a = (xs ((i : Int) + 4).toNat).toInt := ⟨_, rfl⟩
  have r4 : inR a4 := by rw [ea4]; exact inR_of _
  have t4 : -2147483648 ≤ a4 ∧ a4 < 2147483648 := r4
  refine g_aload_n hC dL_law_870 rfl ?_
  refine g_aload_n hC dL_law_871 rfl ?_
  refine g_iload hC dL_law_872 rfl ?_
  refine g_iconst hC dL_law_874 ?_
  refine g_iadd hC dL_law_875 ?_
  refine g_sld hC hB (by omega) (by omega) hL dL_law_876 ?_
  rw [← ea1]
  refine g_aload_n hC dL_law_877 rfl ?_
  refine hO G sh rf mem x m o A B rp ex ar ms ss ch ds lk g y z a1 cells slots _ hS9 r1 hcs hsl (fun x878 mem878 hx878 => ?_)
  have hS1 : LSt G sh rf mem878 x m o A B rp ms ss ch ds lk ex ar g y z := by
    rcases hx878 with ⟨-, -, e⟩ | ⟨-, -, e⟩
    · rw [e]; exact hS9
    · rw [e]; exact hS9.out
  have w9 : WN G sh rf mem878 sh rf mem878 x A rp ms ss ch ds lk ex ar g y z := ⟨hS1.1, fun _ _ => Un.rf0⟩
  obtain ⟨q1, q2, q3⟩ := hS1.mid w9.2
  refine g_re q1 (fun B1 hM1 hB1 hj1 => ?_)
  have hV1 := q2 B1 hB1
  have mo1 := hM1.1
  have rb : x878 = 0 ∨ x878 = 1 := by rcases hx878 with ⟨-, e, -⟩ | ⟨-, e, -⟩ <;> omega
  have rr : (¬ (0 ≤ a1 ∧ a1 < ex.length) ∧ x878 = 1) ∨ ((0 ≤ a1 ∧ a1 < ex.length) ∧ x878 = 0 ∧ mem878 o 0 = sb (ex.getD a1.toNat 0)) := by
    rcases hx878 with ⟨e1, e2, -⟩ | ⟨e1, e2, e3⟩
    · exact Or.inl ⟨e1, e2⟩
    · exact Or.inr ⟨e1, e2, by rw [e3, gup_s]⟩
  refine g_istore hC dL_law_881 (Nat.le_of_ble_eq_true rfl) ?_
  dsimp only [List.set]
  refine g_aload_n hC dL_law_883 rfl ?_
  refine g_aload_n hC dL_law_884 rfl ?_
  refine g_iload hC dL_law_885 rfl ?_
  refine g_iconst hC dL_law_887 ?_
  refine g_iadd hC dL_law_888 ?_
  refine g_sld hC hB (by omega) (by omega) hL dL_law_889 ?_
  rw [← ea1]
  refine g_VM hC (kX10_octet (gl X) (gD X) (gac X) m B1 rp ex ar ms ss ch ds lk g y z a1 hM1 hV1 ⟨kE1, kE, kE2⟩ r1) cvX10_octet lkL_103 (by assumption) rfl rfl (Nat.le_of_ble_eq_true rfl) (gfitL hR (by omega) (by omega) (by omega)) dL_law_890 (fun x890 mem890 hx890 => ?_)
  obtain ⟨hp8, v2, c2⟩ := hx890
  have oo : mem890 o = mem878 o := c2 o hmo.symm (fun f e => by
    cases c : RWb f with
    | true => rw [hB1 f c] at e; exact hbo f c e.symm
    | false =>
      have w := hj1 f c
      rw [← e, so] at w
      cases w)
  have sl := sb_le (ex.getD a1.toNat 0)
  have xb : -128 ≤ x890 ∧ x890 < 128 := by omega
  have tt : mem890 m 0 = x878 := by omega
  refine g_istore hC dL_law_893 (Nat.le_of_ble_eq_true rfl) ?_
  dsimp only [List.set]
  refine g_aload_n hC dL_law_895 rfl ?_
  refine g_VP hC (kX10_thrown (gl X) (gD X) (gac X) m B1 hM1) cvX10_thrown lkL_104 (by assumption) rfl rfl (Nat.le_of_ble_eq_true rfl) (gfitL hR (by omega) (by omega) (by omega)) dL_law_896 (fun x896 hx896 => ?_)
  refine g_iload hC dL_law_899 rfl ?_
  refine g_icmp_eq (tgt := 906) hC dL_law_901 (by decide) ⟨by omega, by omega⟩ ⟨by omega, by omega⟩ (fun h901 => ?_) (fun h901 => ?_)
  · refine g_iload hC dL_law_906 rfl ?_
    refine g_if_ne (tgt := 923) hC dL_law_908 (by decide) ⟨by omega, by omega⟩ (fun h908 => ?_) (fun h908 => ?_)
    · refine g_goto (tgt := 1205) hC dL_law_923 (by decide) ?_
      exact hK _ _ _ _ _ B1 _ _ _ _ _ _ _ _ _ _ _ _ _ (hS1.next w9 hM1 hB1 hj1 v2 c2 hI) (by omega) (by omega)
    · refine g_aload_n hC dL_law_911 rfl ?_
      refine g_iconst hC dL_law_912 ?_
      refine g_lald hC (by assumption) (by omega) (by omega) (by decide) dL_law_913 ?_
      have oe : mem890 o (0 : Int).toNat = x890 := by
        show mem890 o 0 = x890
        rw [oo]
        omega
      rw [oe]
      refine g_iload hC dL_law_914 rfl ?_
      refine g_i2l hC ⟨by omega, by omega⟩ dL_law_916 ?_
      refine g_lcmpE hC dL_law_917 ?_
      refine g_if_eq (tgt := 923) hC dL_law_918 (by decide) ⟨by omega, by omega⟩ (fun h918 => ?_) (fun h918 => ?_)
      · refine g_goto (tgt := 1205) hC dL_law_923 (by decide) ?_
        exact hK _ _ _ _ _ B1 _ _ _ _ _ _ _ _ _ _ _ _ _ (hS1.next w9 hM1 hB1 hj1 v2 c2 hI) (by omega) (by omega)
      · exfalso; omega
  · exfalso; omega
