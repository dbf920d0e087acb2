/-! rows: fields and rows of ints and references -/
def gFd (own : String) (idx ci k : Nat) (b : Bool) (ty : FieldType) (fin : Bool) : Prop := ∃ (C : String) (T : u_T) (N : Nat) (tf : Nat → FieldType), vwCl[ci]? = some (C, T, N) ∧ (∀ w ∈ u_ws C T N, w ∈ wG) ∧ k < N ∧ Cond.fieldLink own idx C (T k).2.1 (T k).2.2.1 ∈ wG ∧ (T k).1 = C ∧ (T k).2.2.2 = fin ∧ (gfl ci)[k]? = some b ∧ ci ≤ 10 ∧ (∀ j, j < N → parseFieldDescriptor (T j).2.2.1 = some (tf j)) ∧ (∀ a, a < N → ∀ b, b < N → a ≠ b → (T a).2.1 ≠ (T b).2.1) ∧ tf k = ty
theorem gfl_pos {ci k : Nat} {b : Bool} (h : (gfl ci)[k]? = some b) : ci ≠ 0 := by
  rintro rfl
  simp [gfl] at h
theorem gW_get {D : va_G} {ac : Nat → ClassId} {A : Nat → Prop} {sh : Nat → Nat × Nat} {rf : Nat → Nat → Option Nat} {mem : Nat → Nat → Int} {H : Heap} {L : List Nat} {a : Nat} (hL : ∀ a, a ∈ L ↔ (sh a).1 ≠ 0) (h : (sh a).1 ≠ 0) : ∃ k : Nat, (va_pl L (gE ac sh rf mem))[k]? = some (a, gE ac sh rf mem a) := va_pl_get (X := []) ((hL a).mpr h)
theorem gW_set {D : va_G} {ac : Nat → ClassId} {A : Nat → Prop} {sh : Nat → Nat × Nat} {rf rf' : Nat → Nat → Option Nat} {mem mem' : Nat → Nat → Int} {H : Heap} {L : List Nat} {a k : Nat} {e : va_E} (hL : ∀ a, a ∈ L ↔ (sh a).1 ≠ 0) (hD : va_D A (va_pl L (gE ac sh rf mem))) (hk : (va_pl L (gE ac sh rf mem))[k]? = some (a, gE ac sh rf mem a)) (h : (sh a).1 ≠ 0) (he : ∀ b, va_up (gE ac sh rf mem) a e b = gE ac sh rf' mem' b) (hP : va_P D vwCl ((va_pl L (gE ac sh rf mem)).set k (a, e)) H) (hD' : va_D A ((va_pl L (gE ac sh rf mem)).set k (a, e))) : gW D ac A sh rf' mem' H := by
  have e1 : (va_pl L (gE ac sh rf mem)).set k (a, e) = va_pl L (gE ac sh rf' mem') := (va_pl_set (X := []) hD ((hL a).mpr h) hk).trans (va_pl_congr he)
  rw [e1] at hP hD'
  exact ⟨L, hL, hP, hD'⟩
def gcp (mem : Nat → Nat → Int) (a0 sp a1 dp n : Nat) : Nat → Nat → Int := fun b j => if b = a1 ∧ dp ≤ j ∧ j < dp + n then mem a0 (sp + (j - dp)) else mem b j
section GR3
variable {X : gX} {cc : ByteArray} {own : String} {sh : Nat → Nat × Nat} {rf : Nat → Nat → Option Nat} {mem : Nat → Nat → Int} {cells slots pc : Nat} {lv : List (Option Value)} {st : List Value}
theorem g_get0 (hC : gC X cc own) {idx ci k a n : Nat} {b fin : Bool} {ty : FieldType} (F : gFd own idx ci k b ty fin) (hs : sh a = (ci, n)) (hd : decode cc pc = .ok (.getfield idx, 3)) (kk : gG X sh rf mem cells slots (pc + 3) lv ((bif b then va_rf (rf a k) else .int (iI (mem a k))) :: st)) : gG X sh rf mem cells slots pc lv (.ref a :: st) := by
  obtain ⟨p, l, e, R, s, m, args, below, meth, c, nL, D, ac, A, Q⟩ := X
  obtain ⟨⟨hx, hb, hml, hown, hts⟩, hK, hA, hN, hO⟩ := hC
  obtain ⟨C, T, N, tf, hc, hin, hkN, hlk, hC1, hfin, hfl, hci, hty, hnm, htk⟩ := F
  rintro H locs ls ⟨L, hL, hP, hD⟩ hS hl
  have h0 : (sh a).1 ≠ 0 := by rw [hs]; exact gfl_pos hfl
  obtain ⟨q0, hq⟩ := gW_get (D := D) (A := A) (H := H) (rf := rf) (mem := mem) (ac := ac) hL h0
  rw [gE_o hs hci] at hq
  refine va_get (ci := ci) hx hb hts hin hown hK hP q0 hq hc k hkN (hts _ hlk) (fun x hx1 => by rw [hC1] at hx1; exact hx1) (gfs_get _ _ _ 0 k b hfl) hd ?_
  rw [Nat.zero_add]
  exact kk H locs ls ⟨L, hL, hP, hD⟩ hS hl
theorem g_getI (hC : gC X cc own) {idx ci k a n : Nat} {fin : Bool} {ty : FieldType} (F : gFd own idx ci k false ty fin) (hs : sh a = (ci, n)) (hd : decode cc pc = .ok (.getfield idx, 3)) (kk : gG X sh rf mem cells slots (pc + 3) lv (.int (iI (mem a k)) :: st)) : gG X sh rf mem cells slots pc lv (.ref a :: st) := g_get0 hC F hs hd kk
theorem g_getR (hC : gC X cc own) {idx ci k a n b : Nat} {fin : Bool} {ty : FieldType} (F : gFd own idx ci k true ty fin) (hs : sh a = (ci, n)) (hr : rf a k = some b) (hd : decode cc pc = .ok (.getfield idx, 3)) (kk : gG X sh rf mem cells slots (pc + 3) lv (.ref b :: st)) : gG X sh rf mem cells slots pc lv (.ref a :: st) := g_get0 hC F hs hd (by rw [hr]; exact kk)
theorem g_put0 (hC : gC X cc own) {idx ci k a n : Nat} {b : Bool} {ty : FieldType} {v : Value} {rf' : Nat → Nat → Option Nat} {mem' : Nat → Nat → Int} (F : gFd own idx ci k b ty false) (hs : sh a = (ci, n)) (hn : narrow ty v = v) (hf : fits ty v = true) (he : ∀ ac q, va_up (gE ac sh rf mem) a (.inr (ci, (gfs (rf a) (mem a) 0 (gfl ci)).set k v)) q = gE ac sh rf' mem' q) (hd : decode cc pc = .ok (.putfield idx, 3)) (kk : gG X sh rf' mem' cells slots (pc + 3) lv st) : gG X sh rf mem cells slots pc lv (v :: .ref a :: st) := by
  obtain ⟨p, l, e, R, s, m, args, below, meth, c, nL, D, ac, A, Q⟩ := X
  obtain ⟨⟨hx, hb, hml, hown, hts⟩, hK, hA, hN, hO⟩ := hC
  obtain ⟨C, T, N, tf, hc, hin, hkN, hlk, hC1, hfin, hfl, hci, hty, hnm, htk⟩ := F
  rintro H locs ls ⟨L, hL, hP, hD⟩ hS hl
  have h0 : (sh a).1 ≠ 0 := by rw [hs]; exact gfl_pos hfl
  obtain ⟨q0, hq⟩ := gW_get (D := D) (A := A) (H := H) (rf := rf) (mem := mem) (ac := ac) hL h0
  have hq1 := hq
  rw [gE_o hs hci] at hq1
  refine va_put (ci := ci) (ty := ty) hx hb hts hin tf hty hnm hown hK hP hD hS q0 hq1 hc k hkN (hts _ hlk) (fun x hx1 => by rw [hC1] at hx1; exact hx1) hfin (by rw [hty k hkN, htk]) hn hf (by rw [gfs_len]; exact (List.getElem?_eq_some_iff.mp hfl).1) hd (fun H1 locs1 hP1 hD1 hS1 => ?_)
  exact kk H1 locs1 ls (gW_set hL hD hq h0 (he ac) hP1 hD1) hS1 hl
theorem g_putF0 (hC : gC X cc own) {idx ci k a n : Nat} {b : Bool} {ty : FieldType} {v : Value} {rf' : Nat → Nat → Option Nat} {mem' : Nat → Nat → Int} (F : gFd own idx ci k b ty true) (hinit : X.2.2.2.2.2.2.2.2.1.name = "<init>") (hown0 : ∀ C T N, vwCl[ci]? = some (C, T, N) → C = own) (hs : sh a = (ci, n)) (hn : narrow ty v = v) (hf : fits ty v = true) (he : ∀ ac q, va_up (gE ac sh rf mem) a (.inr (ci, (gfs (rf a) (mem a) 0 (gfl ci)).set k v)) q = gE ac sh rf' mem' q) (hd : decode cc pc = .ok (.putfield idx, 3)) (kk : gG X sh rf' mem' cells slots (pc + 3) lv st) : gG X sh rf mem cells slots pc lv (v :: .ref a :: st) := by
  obtain ⟨p, l, e, R, s, m, args, below, meth, c, nL, D, ac, A, Q⟩ := X
  obtain ⟨⟨hx, hb, hml, hown, hts⟩, hK, hA, hN, hO⟩ := hC
  obtain ⟨C, T, N, tf, hc, hin, hkN, hlk, hC1, hfin, hfl, hci, hty, hnm, htk⟩ := F
  rintro H locs ls ⟨L, hL, hP, hD⟩ hS hl
  have h0 : (sh a).1 ≠ 0 := by rw [hs]; exact gfl_pos hfl
  obtain ⟨q0, hq⟩ := gW_get (D := D) (A := A) (H := H) (rf := rf) (mem := mem) (ac := ac) hL h0
  have hq1 := hq
  rw [gE_o hs hci] at hq1
  refine va_putF (ci := ci) (ty := ty) hx hb hts hin tf hty hnm hown hK hP hD hS q0 hq1 hc k hkN (hts _ hlk) (fun x hx1 => by rw [hC1] at hx1; exact hx1) hfin hinit (by rw [hC1]; exact hown0 C T N hc) (by rw [hty k hkN, htk]) hn hf (by rw [gfs_len]; exact (List.getElem?_eq_some_iff.mp hfl).1) hd (fun H1 locs1 hP1 hD1 hS1 => ?_)
  exact kk H1 locs1 ls (gW_set hL hD hq h0 (he ac) hP1 hD1) hS1 hl
theorem g_putI (hC : gC X cc own) {idx ci k a n : Nat} {ty : FieldType} {v : Int} (F : gFd own idx ci k false ty false) (hs : sh a = (ci, n)) (hn : narrow ty (.int (iI v)) = .int (iI v)) (hf : fits ty (.int (iI v)) = true) (hd : decode cc pc = .ok (.putfield idx, 3)) (kk : gG X sh rf (gup mem a k v) cells slots (pc + 3) lv st) : gG X sh rf mem cells slots pc lv (.int (iI v) :: .ref a :: st) :=
  g_put0 hC F hs hn hf (fun ac q => gE_upO hs (by obtain ⟨_, _, _, _, _, _, _, _, _, _, _, h, _⟩ := F; exact h) (by obtain ⟨_, _, _, _, _, _, _, _, _, _, h, _⟩ := F; exact h) q) hd kk
theorem g_putR (hC : gC X cc own) {idx ci k a n v : Nat} {ty : FieldType} (F : gFd own idx ci k true ty true) (hinit : X.2.2.2.2.2.2.2.2.1.name = "<init>") (hown0 : ∀ C T N, vwCl[ci]? = some (C, T, N) → C = own) (hs : sh a = (ci, n)) (hn : narrow ty (.ref v) = .ref v) (hf : fits ty (.ref v) = true) (hd : decode cc pc = .ok (.putfield idx, 3)) (kk : gG X sh (gur rf a k (some v)) mem cells slots (pc + 3) lv st) : gG X sh rf mem cells slots pc lv (.ref v :: .ref a :: st) :=
  g_putF0 hC F hinit hown0 hs hn hf (fun ac q => gE_upR (v := some v) hs (by obtain ⟨_, _, _, _, _, _, _, _, _, _, _, h, _⟩ := F; exact h) (by obtain ⟨_, _, _, _, _, _, _, _, _, _, h, _⟩ := F; exact h) q) hd kk
theorem g_iald (hC : gC X cc own) {a n : Nat} {i : Int} (hs : sh a = (12, n)) (h0 : 0 ≤ i) (h1 : i < n) (hn : n < 2147483648) (hd : decode cc pc = .ok (.iaload, 1)) (kk : gG X sh rf mem cells slots (pc + 1) lv (.int (iI (mem a i.toNat)) :: st)) : gG X sh rf mem cells slots pc lv (.int (iI i) :: .ref a :: st) := by
  obtain ⟨p, l, e, R, s, m, args, below, meth, c, nL, D, ac, A, Q⟩ := X
  obtain ⟨⟨hx, hb, hml, hown, hts⟩, hK, hA, hN, hO⟩ := hC
  rintro H locs ls ⟨L, hL, hP, hD⟩ hS hl
  obtain ⟨q0, hq⟩ := gW_get (D := D) (A := A) (H := H) (rf := rf) (mem := mem) (ac := ac) hL (a := a) (by rw [hs]; simp)
  rw [gE_i hs (by decide) (by decide)] at hq
  refine va_iald hx hb hK hP q0 1 hq rfl (iI_in h0 h1 hn) hd ?_
  rw [iI_clamp h0 (by omega)]
  exact kk H locs ls ⟨L, hL, hP, hD⟩ hS hl
theorem g_bald (hC : gC X cc own) {a n : Nat} {i : Int} (hs : sh a = (11, n)) (h0 : 0 ≤ i) (h1 : i < n) (hn : n < 2147483648) (hd : decode cc pc = .ok (.baload, 1)) (kk : gG X sh rf mem cells slots (pc + 1) lv (.int (iI (mem a i.toNat)) :: st)) : gG X sh rf mem cells slots pc lv (.int (iI i) :: .ref a :: st) := by
  obtain ⟨p, l, e, R, s, m, args, below, meth, c, nL, D, ac, A, Q⟩ := X
  obtain ⟨⟨hx, hb, hml, hown, hts⟩, hK, hA, hN, hO⟩ := hC
  rintro H locs ls ⟨L, hL, hP, hD⟩ hS hl
  obtain ⟨q0, hq⟩ := gW_get (D := D) (A := A) (H := H) (rf := rf) (mem := mem) (ac := ac) hL (a := a) (by rw [hs]; simp)
  rw [gE_i hs (by decide) (by decide)] at hq
  refine va_bald hx hb hK hP q0 0 hq rfl (iI_in h0 h1 hn) hd ?_
  rw [iI_clamp h0 (by omega)]
  exact kk H locs ls ⟨L, hL, hP, hD⟩ hS hl
theorem g_zald (hC : gC X cc own) {a n : Nat} {i : Int} (hs : sh a = (13, n)) (h0 : 0 ≤ i) (h1 : i < n) (hn : n < 2147483648) (hd : decode cc pc = .ok (.baload, 1)) (kk : gG X sh rf mem cells slots (pc + 1) lv (.int (iI (mem a i.toNat)) :: st)) : gG X sh rf mem cells slots pc lv (.int (iI i) :: .ref a :: st) := by
  obtain ⟨p, l, e, R, s, m, args, below, meth, c, nL, D, ac, A, Q⟩ := X
  obtain ⟨⟨hx, hb, hml, hown, hts⟩, hK, hA, hN, hO⟩ := hC
  rintro H locs ls ⟨L, hL, hP, hD⟩ hS hl
  obtain ⟨q0, hq⟩ := gW_get (D := D) (A := A) (H := H) (rf := rf) (mem := mem) (ac := ac) hL (a := a) (by rw [hs]; simp)
  rw [gE_i hs (by decide) (by decide)] at hq
  refine va_zald hx hb hK hP q0 2 hq rfl (iI_in h0 h1 hn) hd ?_
  rw [iI_clamp h0 (by omega)]
  exact kk H locs ls ⟨L, hL, hP, hD⟩ hS hl
theorem g_aald (hC : gC X cc own) {a c n : Nat} {i : Int} (hs : sh a = (c, n)) (hc : c = 15 ∨ c = 16) (h0 : 0 ≤ i) (h1 : i < n) (hn : n < 2147483648) (hd : decode cc pc = .ok (.aaload, 1)) (kk : gG X sh rf mem cells slots (pc + 1) lv (va_rf (rf a i.toNat) :: st)) : gG X sh rf mem cells slots pc lv (.int (iI i) :: .ref a :: st) := by
  obtain ⟨p, l, e, R, s, m, args, below, meth, co, nL, D, ac, A, Q⟩ := X
  obtain ⟨⟨hx, hb, hml, hown, hts⟩, hK, hA, hN, hO⟩ := hC
  rintro H locs ls ⟨L, hL, hP, hD⟩ hS hl
  obtain ⟨q0, hq⟩ := gW_get (D := D) (A := A) (H := H) (rf := rf) (mem := mem) (ac := ac) hL (a := a) (by rw [hs]; rcases hc with rfl | rfl <;> simp)
  rw [gE_q hs (by omega)] at hq
  rcases hc with rfl | rfl
  · refine va_aldq hx hb hK hP q0 4 hq rfl (iI_in h0 h1 hn) hd ?_
    rw [iI_clamp h0 (by omega)]
    exact kk H locs ls ⟨L, hL, hP, hD⟩ hS hl
  · refine va_aldq hx hb hK hP q0 5 hq rfl (iI_in h0 h1 hn) hd ?_
    rw [iI_clamp h0 (by omega)]
    exact kk H locs ls ⟨L, hL, hP, hD⟩ hS hl
theorem g_iast (hC : gC X cc own) {a n : Nat} {i v : Int} (hs : sh a = (12, n)) (h0 : 0 ≤ i) (h1 : i < n) (hn : n < 2147483648) (hd : decode cc pc = .ok (.iastore, 1)) (kk : gG X sh rf (gup mem a i.toNat v) cells slots (pc + 1) lv st) : gG X sh rf mem cells slots pc lv (.int (iI v) :: .int (iI i) :: .ref a :: st) := by
  obtain ⟨p, l, e, R, s, m, args, below, meth, c, nL, D, ac, A, Q⟩ := X
  obtain ⟨⟨hx, hb, hml, hown, hts⟩, hK, hA, hN, hO⟩ := hC
  rintro H locs ls ⟨L, hL, hP, hD⟩ hS hl
  have hz : (sh a).1 ≠ 0 := by rw [hs]; simp
  obtain ⟨q0, hq⟩ := gW_get (D := D) (A := A) (H := H) (rf := rf) (mem := mem) (ac := ac) hL hz
  have hq1 := hq
  rw [gE_i hs (by decide) (by decide)] at hq1
  refine va_iast hx hb hK hP hD hS q0 1 hq1 rfl (iI_in h0 h1 hn) hd (fun H1 locs1 hP1 hD1 hS1 => ?_)
  rw [iI_clamp h0 (by omega)] at hP1 hD1
  exact kk H1 locs1 ls (gW_set hL hD hq hz (fun b => gE_upI hs (by decide) (by decide) rfl b) hP1 hD1) hS1 hl
theorem g_zast (hC : gC X cc own) {a n : Nat} {i v : Int} (hs : sh a = (13, n)) (h0 : 0 ≤ i) (h1 : i < n) (hn : n < 2147483648) (hv : v = 0 ∨ v = 1) (hd : decode cc pc = .ok (.bastore, 1)) (kk : gG X sh rf (gup mem a i.toNat v) cells slots (pc + 1) lv st) : gG X sh rf mem cells slots pc lv (.int (iI v) :: .int (iI i) :: .ref a :: st) := by
  obtain ⟨p, l, e, R, s, m, args, below, meth, c, nL, D, ac, A, Q⟩ := X
  obtain ⟨⟨hx, hb, hml, hown, hts⟩, hK, hA, hN, hO⟩ := hC
  rintro H locs ls ⟨L, hL, hP, hD⟩ hS hl
  have hz : (sh a).1 ≠ 0 := by rw [hs]; simp
  obtain ⟨q0, hq⟩ := gW_get (D := D) (A := A) (H := H) (rf := rf) (mem := mem) (ac := ac) hL hz
  have hq1 := hq
  rw [gE_i hs (by decide) (by decide)] at hq1
  refine va_zast hx hb hK hP hD hS q0 2 hq1 rfl (iI_in h0 h1 hn) hd (fun H1 locs1 hP1 hD1 hS1 => ?_)
  rw [iI_clamp h0 (by omega)] at hP1 hD1
  exact kk H1 locs1 ls (gW_set hL hD hq hz (fun b => gE_upI hs (by decide) (by decide) (by rcases hv with rfl | rfl <;> decide +kernel) b) hP1 hD1) hS1 hl
theorem g_bast (hC : gC X cc own) {a n : Nat} {i v w : Int} (hs : sh a = (11, n)) (h0 : 0 ≤ i) (h1 : i < n) (hn : n < 2147483648) (hv : (iI v).toInt8.toInt32 = iI w) (hd : decode cc pc = .ok (.bastore, 1)) (kk : gG X sh rf (gup mem a i.toNat w) cells slots (pc + 1) lv st) : gG X sh rf mem cells slots pc lv (.int (iI v) :: .int (iI i) :: .ref a :: st) := by
  obtain ⟨p, l, e, R, s, m, args, below, meth, c, nL, D, ac, A, Q⟩ := X
  obtain ⟨⟨hx, hb, hml, hown, hts⟩, hK, hA, hN, hO⟩ := hC
  rintro H locs ls ⟨L, hL, hP, hD⟩ hS hl
  have hz : (sh a).1 ≠ 0 := by rw [hs]; simp
  obtain ⟨q0, hq⟩ := gW_get (D := D) (A := A) (H := H) (rf := rf) (mem := mem) (ac := ac) hL hz
  have hq1 := hq
  rw [gE_i hs (by decide) (by decide)] at hq1
  refine va_bast hx hb hK hP hD hS q0 0 hq1 rfl (iI_in h0 h1 hn) hd (fun H1 locs1 hP1 hD1 hS1 => ?_)
  rw [iI_clamp h0 (by omega)] at hP1 hD1
  exact kk H1 locs1 ls (gW_set hL hD hq hz (fun b => gE_upI hs (by decide) (by decide) (by rw [vp_nar_byte]; exact hv) b) hP1 hD1) hS1 hl
theorem g_len (hC : gC X cc own) {a c n : Nat} (hs : sh a = (c, n)) (hc : c = 11 ∨ c = 12) (hd : decode cc pc = .ok (.arraylength, 1)) (kk : gG X sh rf mem cells slots (pc + 1) lv (.int (iI n) :: st)) : gG X sh rf mem cells slots pc lv (.ref a :: st) := by
  obtain ⟨p, l, e, R, s, m, args, below, meth, co, nL, D, ac, A, Q⟩ := X
  obtain ⟨⟨hx, hb, hml, hown, hts⟩, hK, hA, hN, hO⟩ := hC
  rintro H locs ls ⟨L, hL, hP, hD⟩ hS hl
  obtain ⟨q0, hq⟩ := gW_get (D := D) (A := A) (H := H) (rf := rf) (mem := mem) (ac := ac) hL (a := a) (by rw [hs]; rcases hc with rfl | rfl <;> simp)
  rw [gE_i hs (by omega) (by omega)] at hq
  rcases hc with rfl | rfl
  · exact va_alen hx hb hK hP q0 0 hq rfl (Int32.ofInt_eq_ofNat).symm hd (kk H locs ls ⟨L, hL, hP, hD⟩ hS hl)
  · exact va_alen hx hb hK hP q0 1 hq rfl (Int32.ofInt_eq_ofNat).symm hd (kk H locs ls ⟨L, hL, hP, hD⟩ hS hl)
end GR3
