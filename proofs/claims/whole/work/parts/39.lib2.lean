/-! Libraries: what changes do -/
/-- what a change of the libraries leaves alone -/
def LbF (sh : Nat → Nat × Nat) (rf : Nat → Nat → Option Nat) (mem : Nat → Nat → Int) (sh1 : Nat → Nat × Nat) (rf1 : Nat → Nat → Option Nat) (mem1 : Nat → Nat → Int) (a2 : Nat) (la l0 l1 l2 : Nat → Nat) (ms : List (Option MemT)) : Prop :=
  (∀ b, (sh b).1 ≠ 0 → sh1 b = sh b) ∧ ∀ b, (sh b).1 ≠ 0 → sh b ≠ (3, 0) → sh b ≠ (13, 6) → sh b ≠ (15, 80) → b ≠ a2 → (∀ i, ms.getD i none ≠ none → b ≠ la i ∧ b ≠ l0 i ∧ b ≠ l1 i ∧ b ≠ l2 i) → rf1 b = rf b ∧ mem1 b = mem b
theorem LbF.rf {sh : Nat → Nat × Nat} {rf : Nat → Nat → Option Nat} {mem : Nat → Nat → Int} {a2 : Nat} {la l0 l1 l2 : Nat → Nat} {ms : List (Option MemT)} : LbF sh rf mem sh rf mem a2 la l0 l1 l2 ms := ⟨fun _ _ => rfl, fun _ _ _ _ _ _ _ => ⟨rfl, rfl⟩⟩
section LB
variable {sh : Nat → Nat × Nat} {rf : Nat → Nat → Option Nat} {mem mem1 : Nat → Nat → Int} {a a0 a1 a2 : Nat} {la l0 l1 l2 : Nat → Nat} {rp : List Int} {ms : List (Option MemT)}
theorem memS_set {k : Nat} {x y : MemT} (hx : ms.getD k none = some x) (h1 : y.1 = x.1) (h2 : y.2.1 = x.2.1) (i : Nat) (l n : Int) : hnIs (ms.set k (some y)) i l n ↔ hnIs ms i l n := by
  have hk : k < ms.length := getD_ltM (by rw [hx]; simp)
  unfold hnIs
  rw [getD_setM hk]
  by_cases e : i = k
  · subst e
    rw [if_pos rfl, hx]
    constructor
    · rintro ⟨z, e1, e2, e3⟩; cases e1; exact ⟨x, rfl, by rw [← h1]; exact e2, by rw [← h2]; exact e3⟩
    · rintro ⟨z, e1, e2, e3⟩; cases e1; exact ⟨y, rfl, by rw [h1]; exact e2, by rw [h2]; exact e3⟩
  · rw [if_neg e]
theorem memS_ext {ns : List (Option MemT)} (hl : ms.length = ns.length) {l n : Int} (h : ∀ i, hnIs ms i l n ↔ hnIs ns i l n) : memS ms l n = memS ns l n := by
  by_cases hz : ∃ i, hnIs ms i l n
  · obtain ⟨i, h1, h2⟩ := pk_least (fun i => hnIs ms i l n) hz
    rw [memS_pos h1 h2, memS_pos ((h i).mp h1) (fun j hj q => h2 j hj ((h j).mpr q))]
  · rw [memS_zero (fun i _ q => hz ⟨i, q⟩), memS_zero (fun i _ q => hz ⟨i, (h i).mpr q⟩)]
theorem LbV_lines (hO : LbO sh rf a a0 a1 a2) (h : LbV sh rf mem a a0 a1 a2 la l0 l1 l2 rp ms) {k : Nat} {x : MemT} {ys : Lns} (hx : ms.getD k none = some x) (hi : LnI mem1 (la k) (l0 k) (l1 k) (l2 k)) (hv : LnV mem1 (la k) (l0 k) (l1 k) (l2 k) ys) (hf : Fr4 mem mem1 (la k) (l0 k) (l1 k) (l2 k)) : LbV sh rf mem1 a a0 a1 a2 la l0 l1 l2 rp (ms.set k (some (x.1, x.2.1, ys))) ∧ LbF sh rf mem sh rf mem1 a2 la l0 l1 l2 ms := by
  obtain ⟨ho, -, -, -, hs0, hs1, hs2⟩ := hO
  obtain ⟨v1, v2, v3, v4, v5, v6, v7, v8, v9⟩ := h
  have hk : k < ms.length := getD_ltM (by rw [hx]; simp)
  obtain ⟨q1, q2, q3, q4, q5⟩ := (v6 k hk).2 x hx
  obtain ⟨b1, b2, b3, b4, b5, b6, b7, b8⟩ := q2
  have key : ∀ c, sh c = (3, 0) ∨ sh c = (13, 6) ∨ sh c = (15, 80) ∨ sh c = (12, 600) → mem1 c = mem c := by
    intro c hc
    refine hf c ?_ ?_ ?_ ?_ <;> rintro rfl <;> simp_all
  refine ⟨⟨?_, v2, ?_, by rw [List.length_set]; exact v4, ?_, ?_, ?_, ?_, ?_⟩, fun _ _ => rfl, fun b _ h1 h2 h3 h4 h5 => ⟨rfl, ?_⟩⟩
  · rw [key a (Or.inl ho)]; exact v1
  · rw [key a (Or.inl ho), List.length_set]; exact v3
  · rw [key a0 (Or.inr (Or.inl hs0))]; exact v5
  · rw [List.length_set]
    intro i hi2
    rw [getD_setM hk]
    by_cases e : i = k
    · subst e
      rw [if_pos rfl]
      refine ⟨fun z => by simp at z, fun z hz => ?_⟩
      cases hz
      exact ⟨q1, ⟨b1, b2, b3, b4, b5, b6, b7, b8⟩, hi, hv, q5⟩
    · rw [if_neg e]
      refine ⟨(v6 i hi2).1, fun z hz => ?_⟩
      obtain ⟨p1, p2, p3, p4, p5⟩ := (v6 i hi2).2 z hz
      have hd := v7 k i hk hi2 (fun q => e q.symm) (by rw [hx]; simp) (by rw [hz]; simp)
      have hfr := LnFr (ys := ys) ⟨b1, b2, b3, b4, b5, b6, b7, b8⟩ p2 hd hf
      exact ⟨p1, p2, LnI.fr hfr p3, LnV.fr hfr p4, p5⟩
  · rw [List.length_set]
    intro i j hi2 hj hne h1 h2
    rw [getD_setM hk] at h1 h2
    refine v7 i j hi2 hj hne ?_ ?_
    · by_cases e : i = k
      · rw [e, hx]; simp
      · rw [if_neg e] at h1; exact h1
    · by_cases e : j = k
      · rw [e, hx]; simp
      · rw [if_neg e] at h2; exact h2
  · intro l n c1 c2 c3 c4
    rw [key a2 (Or.inr (Or.inr (Or.inr hs2))), v8 l n c1 c2 c3 c4]
    congr 1
    exact memS_ext (by rw [List.length_set]) (fun i => (memS_set (y := (x.1, x.2.1, ys)) hx rfl rfl i l n).symm)
  · intro i j l n h1 h2
    exact v9 i j l n ((memS_set (y := (x.1, x.2.1, ys)) hx rfl rfl i l n).mp h1) ((memS_set (y := (x.1, x.2.1, ys)) hx rfl rfl j l n).mp h2)
  · obtain ⟨c1, c2, c3, c4⟩ := h5 k (by rw [hx]; simp)
    exact hf b c1 c2 c3 c4
theorem LbV_lib {v : Int} (hO : LbO sh rf a a0 a1 a2) (h : LbV sh rf mem a a0 a1 a2 la l0 l1 l2 rp ms) (hl : rp.length < 6) (hv : v = 0 ∨ v = 1) (e : mem1 = gup (gup mem a0 rp.length v) a 3 (rp.length + 1)) : LbV sh rf mem1 a a0 a1 a2 la l0 l1 l2 (rp ++ [v]) ms ∧ LbF sh rf mem sh rf mem1 a2 la l0 l1 l2 ms := by
  obtain ⟨n1, n2, n3, n4, n5, n6⟩ := hO.ne
  obtain ⟨ho, -, -, -, hs0, hs1, hs2⟩ := hO
  obtain ⟨v1, v2, v3, v4, v5, v6, v7, v8, v9⟩ := h
  subst e
  have key : ∀ c, c ≠ a → c ≠ a0 → gup (gup mem a0 rp.length v) a 3 (rp.length + 1) c = mem c := fun c h1 h2 => by funext j; rw [gup_a _ _ _ _ h1, gup_a _ _ _ _ h2]
  refine ⟨⟨?_, ?_, ?_, v4, ?_, ?_, v7, ?_, v9⟩, fun _ _ => rfl, fun b _ h1 h2 h3 h4 h5 => ⟨rfl, key b (fun q => h1 (by rw [q]; exact ho)) (fun q => h2 (by rw [q]; exact hs0))⟩⟩
  · rw [gup_s]; simp
  · simp; omega
  · rw [gup_k _ _ _ _ (by decide), gup_a _ _ _ _ n1]; exact v3
  · intro i hi
    rw [gup_a _ _ _ _ n1.symm]
    by_cases q : i = rp.length
    · subst q
      rw [gup_s, getD_last]
      exact ⟨rfl, hv⟩
    · have q2 : i < rp.length := by simp at hi; omega
      rw [gup_k _ _ _ _ q, getD_app q2]
      exact v5 i q2
  · intro i hi
    refine ⟨(v6 i hi).1, fun z hz => ?_⟩
    obtain ⟨p1, p2, p3, p4, p5⟩ := (v6 i hi).2 z hz
    obtain ⟨b1, b2, b3, b4, b5, b6, b7, b8⟩ := p2
    have hfr : gup (gup mem a0 rp.length v) a 3 (rp.length + 1) (la i) = mem (la i) ∧ gup (gup mem a0 rp.length v) a 3 (rp.length + 1) (l0 i) = mem (l0 i) ∧ gup (gup mem a0 rp.length v) a 3 (rp.length + 1) (l1 i) = mem (l1 i) ∧ gup (gup mem a0 rp.length v) a 3 (rp.length + 1) (l2 i) = mem (l2 i) := by
      refine ⟨key _ ?_ ?_, key _ ?_ ?_, key _ ?_ ?_, key _ ?_ ?_⟩ <;> rintro q <;> simp_all
    refine ⟨p1, ⟨b1, b2, b3, b4, b5, b6, b7, b8⟩, LnI.fr hfr p3, LnV.fr hfr p4, p5.1, ?_, p5.2.2⟩
    have := p5.2.1
    simp
    omega
  · intro l n c1 c2 c3 c4
    rw [key a2 n3.symm n5.symm]
    exact v8 l n c1 c2 c3 c4
theorem hnIs_app {y : MemT} (i : Nat) (l n : Int) : hnIs (ms ++ [some y]) i l n ↔ (i = ms.length ∧ y.1 = l ∧ y.2.1 = n) ∨ (i ≠ ms.length ∧ hnIs ms i l n) := by
  unfold hnIs
  rw [getD_appM]
  by_cases e : i = ms.length
  · rw [if_pos e]
    constructor
    · rintro ⟨z, e1, e2, e3⟩; cases e1; exact Or.inl ⟨e, e2, e3⟩
    · rintro (⟨-, h2, h3⟩ | ⟨h1, -⟩)
      · exact ⟨y, rfl, h2, h3⟩
      · exact absurd e h1
  · rw [if_neg e]
    constructor
    · intro z; exact Or.inr ⟨e, z⟩
    · rintro (⟨h1, -⟩ | ⟨-, h2⟩)
      · exact absurd h1 e
      · exact h2
theorem hnIs_lt {i : Nat} {l n : Int} (h : hnIs ms i l n) : i < ms.length := by
  obtain ⟨x, h1, -⟩ := h
  exact getD_ltM (by rw [h1]; simp)
theorem memS_app {y : MemT} (l n : Int) (hz : memS ms y.1 y.2.1 = 0) : memS (ms ++ [some y]) l n = if l = y.1 ∧ n = y.2.1 then ms.length + 1 else memS ms l n := by
  by_cases e : l = y.1 ∧ n = y.2.1
  · rw [if_pos e]
    obtain ⟨rfl, rfl⟩ := e
    refine memS_pos ((hnIs_app _ _ _).mpr (Or.inl ⟨rfl, rfl, rfl⟩)) (fun i hi q => ?_)
    rcases (hnIs_app _ _ _).mp q with ⟨h1, -⟩ | ⟨-, h2⟩
    · omega
    · obtain ⟨i2, g1, g2⟩ := pk_least (fun i => hnIs ms i y.1 y.2.1) ⟨i, h2⟩
      rw [memS_pos g1 g2] at hz
      omega
  · rw [if_neg e]
    by_cases hq : ∃ i, hnIs ms i l n
    · obtain ⟨i, h1, h2⟩ := pk_least (fun i => hnIs ms i l n) hq
      have hlt := hnIs_lt h1
      rw [memS_pos h1 h2]
      refine memS_pos ((hnIs_app _ _ _).mpr (Or.inr ⟨by omega, h1⟩)) (fun j hj q => ?_)
      rcases (hnIs_app _ _ _).mp q with ⟨-, h3, h4⟩ | ⟨-, h3⟩
      · exact e ⟨h3.symm, h4.symm⟩
      · exact h2 j hj h3
    · rw [memS_zero (fun i _ q => hq ⟨i, q⟩)]
      refine memS_zero (fun i _ q => ?_)
      rcases (hnIs_app _ _ _).mp q with ⟨-, h3, h4⟩ | ⟨-, h3⟩
      · exact e ⟨h3.symm, h4.symm⟩
      · exact hq ⟨i, h3⟩
theorem hnIs_drop {k : Nat} (hk : k < ms.length) (i : Nat) (l n : Int) : hnIs (ms.set k none) i l n ↔ i ≠ k ∧ hnIs ms i l n := by
  unfold hnIs
  rw [getD_setM hk]
  by_cases e : i = k
  · rw [if_pos e]
    constructor
    · rintro ⟨z, e1, -⟩; simp at e1
    · rintro ⟨h1, -⟩; exact absurd e h1
  · rw [if_neg e]
    constructor
    · intro z; exact ⟨e, z⟩
    · rintro ⟨-, h⟩; exact h
theorem memS_drop {k : Nat} {x : MemT} (hx : ms.getD k none = some x) (hu : ∀ i j l n, hnIs ms i l n → hnIs ms j l n → i = j) (l n : Int) : memS (ms.set k none) l n = if l = x.1 ∧ n = x.2.1 then 0 else memS ms l n := by
  have hk : k < ms.length := getD_ltM (by rw [hx]; simp)
  by_cases e : l = x.1 ∧ n = x.2.1
  · rw [if_pos e]
    refine memS_zero (fun i _ q => ?_)
    obtain ⟨h1, h2⟩ := (hnIs_drop hk i l n).mp q
    exact h1 (hu i k l n h2 ⟨x, hx, e.1.symm, e.2.symm⟩)
  · rw [if_neg e]
    refine memS_ext (by rw [List.length_set]) (fun i => ?_)
    rw [hnIs_drop hk]
    constructor
    · rintro ⟨-, h⟩; exact h
    · intro h
      refine ⟨?_, h⟩
      rintro rfl
      obtain ⟨z, e1, e2, e3⟩ := h
      rw [hx] at e1
      cases e1
      exact e ⟨e2.symm, e3.symm⟩
theorem pl_inj {l n l' n' : Int} (h1 : 1 ≤ l) (h2 : 0 ≤ n) (h3 : n < 100) (g1 : 1 ≤ l') (g2 : 0 ≤ n') (g3 : n' < 100) (h : pl l n = pl l' n') : l = l' ∧ n = n' := by
  unfold pl at h
  omega
theorem LbV_add {sh1 : Nat → Nat × Nat} {rf1 : Nat → Nat → Option Nat} {s s0 s1 s2 : Nat} {l n : Int} (hO : LbO sh rf a a0 a1 a2) (h : LbV sh rf mem a a0 a1 a2 la l0 l1 l2 rp ms) (hl2 : ms.length < 80) (hln : 1 ≤ l ∧ l ≤ rp.length ∧ 0 ≤ n ∧ n < 100) (hz : memS ms l n = 0) (fs : (sh s).1 = 0) (f0 : (sh s0).1 = 0) (f1 : (sh s1).1 = 0) (f2 : (sh s2).1 = 0) (hOl : LnO sh1 rf1 s s0 s1 s2) (hI : LnI mem1 s s0 s1 s2) (hV : LnV mem1 s s0 s1 s2 []) (g1 : ∀ b, (sh b).1 ≠ 0 → sh1 b = sh b) (g2 : ∀ b, (sh b).1 ≠ 0 → b ≠ a1 → rf1 b = rf b) (g3 : ∀ b, (sh b).1 ≠ 0 → b ≠ a → b ≠ a2 → mem1 b = mem b) (g4 : ∀ i, rf1 a1 i = if i = ms.length then some s else rf a1 i) (g5 : mem1 a 4 = ms.length + 1) (g6 : mem1 a 3 = mem a 3) (g7 : ∀ j, mem1 a2 j = if j = pl l n then (ms.length : Int) + 1 else mem a2 j) :
    LbO sh1 rf1 a a0 a1 a2 ∧ LbV sh1 rf1 mem1 a a0 a1 a2 (va_up la ms.length s) (va_up l0 ms.length s0) (va_up l1 ms.length s1) (va_up l2 ms.length s2) rp (ms ++ [some (l, n, [])]) ∧ LbF sh rf mem sh1 rf1 mem1 a2 la l0 l1 l2 ms := by
  obtain ⟨n1, n2, n3, n4, n5, n6⟩ := hO.ne
  obtain ⟨ho, hr0, hr1, hr2, hs0, hs1, hs2⟩ := hO
  obtain ⟨v1, v2, v3, v4, v5, v6, v7, v8, v9⟩ := h
  have ha : (sh a).1 ≠ 0 := by rw [ho]; simp
  have ha0 : (sh a0).1 ≠ 0 := by rw [hs0]; simp
  have ha1 : (sh a1).1 ≠ 0 := by rw [hs1]; simp
  have ha2 : (sh a2).1 ≠ 0 := by rw [hs2]; simp
  refine ⟨⟨by rw [g1 a ha]; exact ho, by rw [g2 a ha n2]; exact hr0, by rw [g2 a ha n2]; exact hr1, by rw [g2 a ha n2]; exact hr2, by rw [g1 a0 ha0]; exact hs0, by rw [g1 a1 ha1]; exact hs1, by rw [g1 a2 ha2]; exact hs2⟩, ⟨by rw [g6]; exact v1, v2, by rw [g5]; simp, by simp; omega, ?_, ?_, ?_, ?_, ?_⟩, g1, fun b hb h1 h2 h3 h4 h5 => ⟨g2 b hb (fun e => h3 (by rw [e]; exact hs1)), g3 b hb (fun e => h1 (by rw [e]; exact ho)) h4⟩⟩
  · rw [g3 a0 ha0 n1.symm n5]; exact v5
  · intro i hi
    rw [getD_appM, g4]
    by_cases e : i = ms.length
    · subst e
      rw [if_pos rfl, if_pos rfl, va_up_self, va_up_self, va_up_self, va_up_self]
      refine ⟨fun z => by simp at z, fun z hz => ?_⟩
      cases hz
      exact ⟨rfl, hOl, hI, hV, hln⟩
    · have hi2 : i < ms.length := by simp at hi; omega
      rw [if_neg e, if_neg e, va_up_ne _ _ e, va_up_ne _ _ e, va_up_ne _ _ e, va_up_ne _ _ e]
      refine ⟨(v6 i hi2).1, fun z hz => ?_⟩
      obtain ⟨p1, ⟨b1, b2, b3, b4, b5, b6, b7, b8⟩, p3, p4, p5⟩ := (v6 i hi2).2 z hz
      have c1 : (sh (la i)).1 ≠ 0 := by rw [b1]; simp
      have c2 : (sh (l0 i)).1 ≠ 0 := by rw [b5]; simp
      have c3 : (sh (l1 i)).1 ≠ 0 := by rw [b6]; simp
      have c4 : (sh (l2 i)).1 ≠ 0 := by rw [b7]; simp
      have m1 : la i ≠ a1 := by rintro e9; rw [e9, hs1] at b1; simp at b1
      have hfr : mem1 (la i) = mem (la i) ∧ mem1 (l0 i) = mem (l0 i) ∧ mem1 (l1 i) = mem (l1 i) ∧ mem1 (l2 i) = mem (l2 i) := by
        refine ⟨g3 _ c1 ?_ ?_, g3 _ c2 ?_ ?_, g3 _ c3 ?_ ?_, g3 _ c4 ?_ ?_⟩ <;> rintro q <;> simp_all
      exact ⟨p1, ⟨by rw [g1 _ c1]; exact b1, by rw [g2 _ c1 m1]; exact b2, by rw [g2 _ c1 m1]; exact b3, by rw [g2 _ c1 m1]; exact b4, by rw [g1 _ c2]; exact b5, by rw [g1 _ c3]; exact b6, by rw [g1 _ c4]; exact b7, b8⟩, LnI.fr hfr p3, LnV.fr hfr p4, p5⟩
  · intro i j hi hj2 hne
    rw [getD_appM, getD_appM]
    intro h1 h2
    have key : ∀ i, i < ms.length → ms.getD i none ≠ none → LnD (la i) (l0 i) (l1 i) (l2 i) s s0 s1 s2 ∧ LnD s s0 s1 s2 (la i) (l0 i) (l1 i) (l2 i) := by
      intro i hi2 hi3
      obtain ⟨z, hz⟩ := Option.ne_none_iff_exists'.mp hi3
      obtain ⟨p1, ⟨b1, b2, b3, b4, b5, b6, b7, b8⟩, p3, p4, p5⟩ := (v6 i hi2).2 z hz
      have d1 : la i ≠ s := by rintro e; rw [← e, b1] at fs; simp at fs
      have d2 : l0 i ≠ s0 := by rintro e; rw [← e, b5] at f0; simp at f0
      have d3 : l0 i ≠ s1 := by rintro e; rw [← e, b5] at f1; simp at f1
      have d4 : l1 i ≠ s0 := by rintro e; rw [← e, b6] at f0; simp at f0
      have d5 : l1 i ≠ s1 := by rintro e; rw [← e, b6] at f1; simp at f1
      have d6 : l2 i ≠ s2 := by rintro e; rw [← e, b7] at f2; simp at f2
      exact ⟨⟨d1, d2, d3, d4, d5, d6⟩, ⟨d1.symm, d2.symm, d4.symm, d3.symm, d5.symm, d6.symm⟩⟩
    by_cases e : i = ms.length
    · subst e
      have e2 : j ≠ ms.length := fun q => hne q.symm
      rw [if_neg e2] at h2
      rw [va_up_self, va_up_self, va_up_self, va_up_self, va_up_ne _ _ e2, va_up_ne _ _ e2, va_up_ne _ _ e2, va_up_ne _ _ e2]
      exact (key j (getD_ltM h2) h2).2
    · rw [if_neg e] at h1
      rw [va_up_ne _ _ e, va_up_ne _ _ e, va_up_ne _ _ e, va_up_ne _ _ e]
      by_cases e2 : j = ms.length
      · subst e2
        rw [va_up_self, va_up_self, va_up_self, va_up_self]
        exact (key i (getD_ltM h1) h1).1
      · rw [if_neg e2] at h2
        rw [va_up_ne _ _ e2, va_up_ne _ _ e2, va_up_ne _ _ e2, va_up_ne _ _ e2]
        exact v7 i j (getD_ltM h1) (getD_ltM h2) hne h1 h2
  · intro l' n' c1 c2 c3 c4
    rw [g7, memS_app (y := (l, n, [])) l' n' hz]
    by_cases e : pl l' n' = pl l n
    · obtain ⟨e1, e2⟩ := pl_inj c1 c3 c4 hln.1 hln.2.2.1 hln.2.2.2 e
      rw [if_pos e, if_pos ⟨e1, e2⟩]
      rfl
    · rw [if_neg e, if_neg (fun q => e (by rw [q.1, q.2])), v8 l' n' c1 c2 c3 c4]
  · intro i j l' n' h1 h2
    rcases (hnIs_app _ _ _).mp h1 with ⟨e1, e2, e3⟩ | ⟨e1, e2⟩ <;> rcases (hnIs_app _ _ _).mp h2 with ⟨k1, k2, k3⟩ | ⟨k1, k2⟩
    · rw [e1, k1]
    · exfalso
      obtain ⟨i2, w1, w2⟩ := pk_least (fun i => hnIs ms i l' n') ⟨j, k2⟩
      have q9 := memS_pos w1 w2
      have e2' : l = l' := e2
      have e3' : n = n' := e3
      rw [← e2', ← e3', hz] at q9
      omega
    · exfalso
      obtain ⟨i2, w1, w2⟩ := pk_least (fun i => hnIs ms i l' n') ⟨i, e2⟩
      have q9 := memS_pos w1 w2
      have k2' : l = l' := k2
      have k3' : n = n' := k3
      rw [← k2', ← k3', hz] at q9
      omega
    · exact v9 i j l' n' e2 k2
theorem LbV_dropm {k : Nat} {x : MemT} (hO : LbO sh rf a a0 a1 a2) (h : LbV sh rf mem a a0 a1 a2 la l0 l1 l2 rp ms) (hx : ms.getD k none = some x) : LbO sh (gur rf a1 k none) a a0 a1 a2 ∧ LbV sh (gur rf a1 k none) (gup mem a2 (pl x.1 x.2.1) 0) a a0 a1 a2 la l0 l1 l2 rp (ms.set k none) ∧ LbF sh rf mem sh (gur rf a1 k none) (gup mem a2 (pl x.1 x.2.1) 0) a2 la l0 l1 l2 ms := by
  obtain ⟨n1, n2, n3, n4, n5, n6⟩ := hO.ne
  obtain ⟨ho, hr0, hr1, hr2, hs0, hs1, hs2⟩ := hO
  obtain ⟨v1, v2, v3, v4, v5, v6, v7, v8, v9⟩ := h
  have hk : k < ms.length := getD_ltM (by rw [hx]; simp)
  obtain ⟨-, -, -, -, x1, x2, x3, x4⟩ := (v6 k hk).2 x hx
  have kf : ∀ c, c ≠ a1 → gur rf a1 k none c = rf c := fun c hc => by funext j; rw [gur_a _ _ _ _ hc]
  have km : ∀ c, c ≠ a2 → gup mem a2 (pl x.1 x.2.1) 0 c = mem c := fun c hc => by funext j; rw [gup_a _ _ _ _ hc]
  refine ⟨⟨ho, by rw [kf a n2]; exact hr0, by rw [kf a n2]; exact hr1, by rw [kf a n2]; exact hr2, hs0, hs1, hs2⟩, ⟨by rw [km a n3]; exact v1, v2, by rw [km a n3, List.length_set]; exact v3, by rw [List.length_set]; exact v4, by rw [km a0 n5]; exact v5, ?_, ?_, ?_, ?_⟩, fun _ _ => rfl, fun b hb h1 h2 h3 h4 h5 => ⟨kf b (fun e => h3 (by rw [e]; exact hs1)), km b h4⟩⟩
  · rw [List.length_set]
    intro i hi
    rw [getD_setM hk]
    by_cases e : i = k
    · subst e
      rw [if_pos rfl, gur_s]
      exact ⟨fun _ => rfl, fun z hz => by simp at hz⟩
    · rw [if_neg e, gur_k _ _ _ _ e]
      refine ⟨(v6 i hi).1, fun z hz => ?_⟩
      obtain ⟨p1, ⟨b1, b2, b3, b4, b5, b6, b7, b8⟩, p3, p4, p5⟩ := (v6 i hi).2 z hz
      have m1 : la i ≠ a1 := by rintro e9; rw [e9, hs1] at b1; simp at b1
      have hfr : gup mem a2 (pl x.1 x.2.1) 0 (la i) = mem (la i) ∧ gup mem a2 (pl x.1 x.2.1) 0 (l0 i) = mem (l0 i) ∧ gup mem a2 (pl x.1 x.2.1) 0 (l1 i) = mem (l1 i) ∧ gup mem a2 (pl x.1 x.2.1) 0 (l2 i) = mem (l2 i) := by
        refine ⟨km _ ?_, km _ ?_, km _ ?_, km _ ?_⟩ <;> rintro q <;> simp_all
      exact ⟨p1, ⟨b1, by rw [kf _ m1]; exact b2, by rw [kf _ m1]; exact b3, by rw [kf _ m1]; exact b4, b5, b6, b7, b8⟩, LnI.fr hfr p3, LnV.fr hfr p4, p5⟩
  · rw [List.length_set]
    intro i j hi hj hne h1 h2
    rw [getD_setM hk] at h1 h2
    refine v7 i j hi hj hne ?_ ?_
    · by_cases e : i = k
      · rw [if_pos e] at h1; exact absurd rfl h1
      · rw [if_neg e] at h1; exact h1
    · by_cases e : j = k
      · rw [if_pos e] at h2; exact absurd rfl h2
      · rw [if_neg e] at h2; exact h2
  · intro l n c1 c2 c3 c4
    rw [memS_drop hx v9 l n]
    by_cases e : pl l n = pl x.1 x.2.1
    · obtain ⟨e1, e2⟩ := pl_inj c1 c3 c4 x1 x3 x4 e
      rw [e, gup_s, if_pos ⟨e1, e2⟩]
      rfl
    · rw [gup_k _ _ _ _ e, if_neg (fun q => e (by rw [q.1, q.2])), v8 l n c1 c2 c3 c4]
  · intro i j l n h1 h2
    exact v9 i j l n ((hnIs_drop hk i l n).mp h1).2 ((hnIs_drop hk j l n).mp h2).2
end LB
