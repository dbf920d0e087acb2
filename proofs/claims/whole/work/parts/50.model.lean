/-! the reference: one object, its rows -/
def MO (sh : Nat → Nat × Nat) (rf : Nat → Nat → Option Nat) (m : Nat) (B : Nat → Nat) : Prop := sh m = (10, 0) ∧ rf m 4 = some (B 4) ∧ sh (B 4) = (13, 7) ∧ rf m 5 = some (B 5) ∧ sh (B 5) = (12, 81) ∧ rf m 6 = some (B 6) ∧ sh (B 6) = (12, 81) ∧ rf m 7 = some (B 7) ∧ sh (B 7) = (12, 81) ∧ rf m 8 = some (B 8) ∧ sh (B 8) = (13, 81) ∧ rf m 9 = some (B 9) ∧ sh (B 9) = (12, 2430) ∧ rf m 10 = some (B 10) ∧ sh (B 10) = (12, 2430) ∧ rf m 11 = some (B 11) ∧ sh (B 11) = (12, 24300) ∧ rf m 12 = some (B 12) ∧ sh (B 12) = (12, 21) ∧ rf m 13 = some (B 13) ∧ sh (B 13) = (12, 21) ∧ rf m 14 = some (B 14) ∧ sh (B 14) = (12, 21) ∧ rf m 15 = some (B 15) ∧ sh (B 15) = (12, 1260) ∧ rf m 16 = some (B 16) ∧ sh (B 16) = (13, 21) ∧ rf m 17 = some (B 17) ∧ sh (B 17) = (13, 21) ∧ rf m 19 = some (B 19) ∧ sh (B 19) = (12, 20) ∧ rf m 20 = some (B 20) ∧ sh (B 20) = (12, 20) ∧ rf m 21 = some (B 21) ∧ sh (B 21) = (12, 200) ∧ rf m 22 = some (B 22) ∧ sh (B 22) = (13, 20) ∧ rf m 25 = some (B 25) ∧ sh (B 25) = (12, 60) ∧ rf m 26 = some (B 26) ∧ sh (B 26) = (12, 60) ∧ rf m 27 = some (B 27) ∧ sh (B 27) = (12, 60) ∧ rf m 30 = some (B 30) ∧ sh (B 30) = (12, 250) ∧ rf m 31 = some (B 31) ∧ sh (B 31) = (12, 250) ∧ (∀ i j, (B i = B j) = (i = j)) ∧ (∀ i, (B i = m) = False) ∧ (∀ i, (m = B i) = False)
section MD
variable {sh : Nat → Nat × Nat} {rf : Nat → Nat → Option Nat} {mem mem1 mem2 : Nat → Nat → Int} {m : Nat} {B : Nat → Nat} {rp ex ar : List Int} {ms : List (Option MemT)} {ss : List (Option SetT)} {ch : Lns} {ds : Dfs} {lk : Nat} {g y z : Int}
/-- only these fields, or their rows, are written -/
def chF (m : Nat) (B : Nat → Nat) (mem mem1 : Nat → Nat → Int) (ws : List Nat) : Prop := (∀ f, f ∉ ws → mem1 m f = mem m f ∧ mem1 (B f) = mem (B f)) ∧ ∀ b, b ≠ m → (∀ f, b ≠ B f) → mem1 b = mem b
theorem chF.rf0 {ws : List Nat} : chF m B mem mem ws := ⟨fun _ _ => ⟨rfl, rfl⟩, fun _ _ _ => rfl⟩
theorem chF.trans {us ws : List Nat} (h : chF m B mem mem1 us) (k : chF m B mem1 mem2 ws) : chF m B mem mem2 (us ++ ws) := by
  refine ⟨fun f hf => ?_, fun b h1 h2 => (k.2 b h1 h2).trans (h.2 b h1 h2)⟩
  rw [List.mem_append, not_or] at hf
  exact ⟨(k.1 f hf.2).1.trans (h.1 f hf.1).1, (k.1 f hf.2).2.trans (h.1 f hf.1).2⟩
theorem chF.mono {us ws : List Nat} (h : chF m B mem mem1 us) (hs : ∀ f, f ∈ us → f ∈ ws) : chF m B mem mem1 ws := ⟨fun f hf => h.1 f (fun w => hf (hs f w)), h.2⟩
theorem chF.fld {f : Nat} {v : Int} (hmB : ∀ i, (m = B i) = False) : chF m B mem (gup mem m f v) [f] := by
  refine ⟨fun i hi => ⟨gup_k _ _ _ _ (by simpa using hi), ?_⟩, fun b h1 _ => ?_⟩
  · funext j
    exact gup_a _ _ _ _ (fun e => by have := hmB i; rw [← e] at this; simp at this)
  · funext j
    exact gup_a _ _ _ _ h1
theorem chF.row {f j : Nat} {v : Int} (hBe : ∀ i j, (B i = B j) = (i = j)) (hmB : ∀ i, (m = B i) = False) : chF m B mem (gup mem (B f) j v) [f] := by
  refine ⟨fun i hi => ⟨gup_a _ _ _ _ (fun e => by have := hmB f; rw [e] at this; simp at this), ?_⟩, fun b _ h2 => ?_⟩
  · funext k
    refine gup_a _ _ _ _ (fun e => ?_)
    rw [hBe] at e
    simp at hi
    exact hi e
  · funext k
    exact gup_a _ _ _ _ (h2 f)
/-- a member's lines in the reference's rows -/
def lnM (B : Nat → Nat) (mem : Nat → Nat → Int) (k : Nat) (xs : Lns) : Prop := mem (B 7) k = xs.length ∧ ∀ j, j < xs.length → mem (B 9) (30 * k + j) = nu xs j ∧ mem (B 10) (30 * k + j) = ((sg xs j).length : Int) ∧ ∀ i, i < (sg xs j).length → mem (B 11) (10 * (30 * k + j) + i) = (sg xs j).getD i 0
def okL (xs : Lns) : Prop := xs.length ≤ 30 ∧ ∀ j, (sg xs j).length ≤ 10 ∧ 0 ≤ nu xs j ∧ nu xs j ≤ 9999 ∧ ∀ i, -128 ≤ (sg xs j).getD i 0 ∧ (sg xs j).getD i 0 < 128
def okM (ms : List (Option MemT)) : Prop := ms.length ≤ 80 ∧ ∀ i x, ms.getD i none = some x → 1 ≤ x.1 ∧ x.1 ≤ 6 ∧ 0 ≤ x.2.1 ∧ x.2.1 < 100 ∧ okL x.2.2
def vL (m : Nat) (B : Nat → Nat) (mem : Nat → Nat → Int) (rp : List Int) : Prop := mem m 1 = rp.length ∧ ∀ i, i < rp.length → mem (B 4) (i + 1) = rp.getD i 0
def okR (rp : List Int) : Prop := rp.length ≤ 6 ∧ ∀ i, i < rp.length → rp.getD i 0 = 0 ∨ rp.getD i 0 = 1
def mB1 (B : Nat → Nat) (mem : Nat → Nat → Int) (i : Nat) (x : MemT) : Prop := mem (B 8) (i + 1) = 0 ∧ mem (B 5) (i + 1) = x.1 ∧ mem (B 6) (i + 1) = x.2.1 ∧ lnM B mem (i + 1) x.2.2
def vM (m : Nat) (B : Nat → Nat) (mem : Nat → Nat → Int) (ms : List (Option MemT)) : Prop := mem m 2 = ms.length ∧ (∀ i, i < ms.length → (ms.getD i none = none → mem (B 8) (i + 1) = 1) ∧ ∀ x, ms.getD i none = some x → mB1 B mem i x) ∧ ∀ i, ms.length ≤ i → mem (B 8) (i + 1) = 0
def sB1 (B : Nat → Nat) (mem : Nat → Nat → Int) (k : Nat) (x : SetT) : Prop := mem (B 17) k = 0 ∧ mem (B 12) k = x.1 ∧ mem (B 16) k = x.2.1 ∧ mem (B 13) k = x.2.2.1.length ∧ mem (B 14) k = x.2.2.2 ∧ ∀ j, j < x.2.2.1.length → mem (B 15) (60 * k + j) = x.2.2.1.getD j 0
def vS (m : Nat) (B : Nat → Nat) (mem : Nat → Nat → Int) (ss : List (Option SetT)) : Prop := mem m 3 = ss.length ∧ (∀ i, i < ss.length → (ss.getD i none = none → mem (B 17) (i + 1) = 1) ∧ ∀ x, ss.getD i none = some x → sB1 B mem (i + 1) x) ∧ ∀ i, ss.length ≤ i → mem (B 17) (i + 1) = 0
def okS (ss : List (Option SetT)) : Prop := ss.length ≤ 20 ∧ ∀ i x, ss.getD i none = some x → 0 ≤ x.1 ∧ x.1 < 100 ∧ (x.2.1 = 0 ∨ x.2.1 = 1) ∧ x.2.2.1.length ≤ 60 ∧ x.2.2.2 ≤ x.2.2.1.length
def vC (m : Nat) (B : Nat → Nat) (mem : Nat → Nat → Int) (ch : Lns) : Prop := mem m 18 = ch.length ∧ ∀ j, j < ch.length → mem (B 19) j = nu ch j ∧ mem (B 20) j = ((sg ch j).length : Int) ∧ mem (B 22) j = (if sg ch j = [] then 1 else 0) ∧ ∀ i, i < (sg ch j).length → mem (B 21) (10 * j + i) = (sg ch j).getD i 0
def okC (ch : Lns) : Prop := ch.length ≤ 20 ∧ ∀ j, (sg ch j).length ≤ 10 ∧ (j < ch.length → 1 ≤ nu ch j ∧ nu ch j ≤ 9999)
def vD (m : Nat) (B : Nat → Nat) (mem : Nat → Nat → Int) (ds : Dfs) (lk : Nat) : Prop := mem m 23 = ds.length ∧ mem m 24 = lk ∧ ∀ j, j < ds.length → mem (B 25) j = (df ds j).1 ∧ mem (B 26) j = (df ds j).2.1 ∧ mem (B 27) j = (df ds j).2.2
def vO (m : Nat) (B : Nat → Nat) (mem : Nat → Nat → Int) (ex : List Int) : Prop := mem m 28 = ex.length ∧ ∀ j, j < ex.length → mem (B 30) j = ex.getD j 0
def vI (m : Nat) (B : Nat → Nat) (mem : Nat → Nat → Int) (ar : List Int) : Prop := mem m 29 = ar.length ∧ ∀ j, j < ar.length → mem (B 31) j = ar.getD j 0
def vT (m : Nat) (mem : Nat → Nat → Int) (g y z : Int) : Prop := mem m 34 = g ∧ mem m 32 = y ∧ mem m 33 = z
/-- the reference's state -/
def MV (m : Nat) (B : Nat → Nat) (mem : Nat → Nat → Int) (rp : List Int) (ms : List (Option MemT)) (ss : List (Option SetT)) (ch : Lns) (ds : Dfs) (lk : Nat) (ex ar : List Int) (g y z : Int) : Prop := vL m B mem rp ∧ vM m B mem ms ∧ vS m B mem ss ∧ vC m B mem ch ∧ vD m B mem ds lk ∧ vO m B mem ex ∧ vI m B mem ar ∧ vT m mem g y z
theorem lnM.st {ws : List Nat} {k : Nat} {xs : Lns} (h : lnM B mem k xs) (c : chF m B mem mem1 ws) (h1 : 7 ∉ ws) (h2 : 9 ∉ ws) (h3 : 10 ∉ ws) (h4 : 11 ∉ ws) : lnM B mem1 k xs := by
  unfold lnM
  rw [(c.1 7 h1).2, (c.1 9 h2).2, (c.1 10 h3).2, (c.1 11 h4).2]
  exact h
theorem vL.st {ws : List Nat} (h : vL m B mem rp) (c : chF m B mem mem1 ws) (hw : ∀ f, f ∈ [1, 4] → f ∉ ws) : vL m B mem1 rp := by
  unfold vL
  rw [(c.1 1 (hw 1 (by decide))).1, (c.1 4 (hw 4 (by decide))).2]
  exact h
theorem vM.st {ws : List Nat} (h : vM m B mem ms) (c : chF m B mem mem1 ws) (hw : ∀ f, f ∈ [2, 5, 6, 7, 8, 9, 10, 11] → f ∉ ws) : vM m B mem1 ms := by
  unfold vM mB1 lnM
  rw [(c.1 2 (hw 2 (by decide))).1, (c.1 5 (hw 5 (by decide))).2, (c.1 6 (hw 6 (by decide))).2, (c.1 7 (hw 7 (by decide))).2, (c.1 8 (hw 8 (by decide))).2, (c.1 9 (hw 9 (by decide))).2, (c.1 10 (hw 10 (by decide))).2, (c.1 11 (hw 11 (by decide))).2]
  exact h
theorem vS.st {ws : List Nat} (h : vS m B mem ss) (c : chF m B mem mem1 ws) (hw : ∀ f, f ∈ [3, 12, 13, 14, 15, 16, 17] → f ∉ ws) : vS m B mem1 ss := by
  unfold vS sB1
  rw [(c.1 3 (hw 3 (by decide))).1, (c.1 12 (hw 12 (by decide))).2, (c.1 13 (hw 13 (by decide))).2, (c.1 14 (hw 14 (by decide))).2, (c.1 15 (hw 15 (by decide))).2, (c.1 16 (hw 16 (by decide))).2, (c.1 17 (hw 17 (by decide))).2]
  exact h
theorem vC.st {ws : List Nat} (h : vC m B mem ch) (c : chF m B mem mem1 ws) (hw : ∀ f, f ∈ [18, 19, 20, 21, 22] → f ∉ ws) : vC m B mem1 ch := by
  unfold vC
  rw [(c.1 18 (hw 18 (by decide))).1, (c.1 19 (hw 19 (by decide))).2, (c.1 20 (hw 20 (by decide))).2, (c.1 21 (hw 21 (by decide))).2, (c.1 22 (hw 22 (by decide))).2]
  exact h
theorem vD.st {ws : List Nat} (h : vD m B mem ds lk) (c : chF m B mem mem1 ws) (hw : ∀ f, f ∈ [23, 24, 25, 26, 27] → f ∉ ws) : vD m B mem1 ds lk := by
  unfold vD
  rw [(c.1 23 (hw 23 (by decide))).1, (c.1 24 (hw 24 (by decide))).1, (c.1 25 (hw 25 (by decide))).2, (c.1 26 (hw 26 (by decide))).2, (c.1 27 (hw 27 (by decide))).2]
  exact h
theorem vO.st {ws : List Nat} (h : vO m B mem ex) (c : chF m B mem mem1 ws) (hw : ∀ f, f ∈ [28, 30] → f ∉ ws) : vO m B mem1 ex := by
  unfold vO
  rw [(c.1 28 (hw 28 (by decide))).1, (c.1 30 (hw 30 (by decide))).2]
  exact h
theorem vI.st {ws : List Nat} (h : vI m B mem ar) (c : chF m B mem mem1 ws) (hw : ∀ f, f ∈ [29, 31] → f ∉ ws) : vI m B mem1 ar := by
  unfold vI
  rw [(c.1 29 (hw 29 (by decide))).1, (c.1 31 (hw 31 (by decide))).2]
  exact h
theorem vT.st {ws : List Nat} (h : vT m mem g y z) (c : chF m B mem mem1 ws) (hw : ∀ f, f ∈ [32, 33, 34] → f ∉ ws) : vT m mem1 g y z := by
  unfold vT
  rw [(c.1 32 (hw 32 (by decide))).1, (c.1 33 (hw 33 (by decide))).1, (c.1 34 (hw 34 (by decide))).1]
  exact h
theorem MV.code {v : Int} (hmB : ∀ i, (m = B i) = False) (h : MV m B mem rp ms ss ch ds lk ex ar g y z) : MV m B (gup mem m 0 v) rp ms ss ch ds lk ex ar g y z ∧ chF m B mem (gup mem m 0 v) [0] := by
  have c : chF m B mem (gup mem m 0 v) [0] := chF.fld hmB
  obtain ⟨h1, h2, h3, h4, h5, h6, h7, h8⟩ := h
  exact ⟨⟨h1.st c (by decide), h2.st c (by decide), h3.st c (by decide), h4.st c (by decide), h5.st c (by decide), h6.st c (by decide), h7.st c (by decide), h8.st c (by decide)⟩, c⟩
theorem memAt_view {n : Int} {x : MemT} (h : vM m B mem ms) (e : memAt ms n = some x) : ∃ k : Nat, n = (k : Int) + 1 ∧ k < ms.length ∧ ms.getD k none = some x ∧ mB1 B mem k x := by
  obtain ⟨h1, h2, h3⟩ := memAt_some e
  exact ⟨(n - 1).toNat, by omega, by omega, h3, (h.2.1 _ (by omega)).2 x h3⟩
theorem setAt_view {n : Int} {x : SetT} (h : vS m B mem ss) (e : setAt ss n = some x) : ∃ k : Nat, n = (k : Int) + 1 ∧ k < ss.length ∧ ss.getD k none = some x ∧ sB1 B mem (k + 1) x := by
  obtain ⟨h1, h2, h3⟩ := setAt_some e
  exact ⟨(n - 1).toNat, by omega, by omega, h3, (h.2.1 _ (by omega)).2 x h3⟩
end MD
