/-! one list of words for every method; the words of nest mates beside it -/
def wG : List Cond := lw_tbl.filter goodWord
theorem wG_good : ∀ w ∈ wG, (w.onTables && w.keeps) = true ∨ ∃ ty, w = .arrayClass ty := fun w h => good_of_word (List.mem_filter.mp h).2
theorem wG_mem {w : Cond} (h : w ∈ lw_tbl) (hg : goodWord w = true) : w ∈ wG := List.mem_filter.mpr ⟨h, hg⟩
theorem wG_tab {w : Cond} (i : Nat) (h : tables_1[i]? = some w) (hg : goodWord w = true) : w ∈ wG := wG_mem (List.mem_append_right _ (List.mem_of_getElem? h)) hg
theorem wG_sel {w : Cond} (i : Nat) (h : (k2_sels lw_privs)[i]? = some w) (hg : goodWord w = true) : w ∈ wG := wG_mem (List.mem_append_left _ (List.mem_of_getElem? h)) hg
theorem wG_in {c c' : Cond} (hc : c' ∈ wG) : GoodIn wG (c' :: wG) := fun w h => by
  rcases List.mem_cons.mp h with rfl | h
  · exact ⟨hc, wG_good _ hc⟩
  · exact ⟨h, wG_good _ h⟩
def gNw : List Cond := [.methodLinkNest RX9 9 ⟨RX3, "<init>", "()V"⟩ RX9, .methodLinkNest RX9 18 ⟨RX7, "<init>", "()V"⟩ RX9, .methodLinkNest RX9 25 ⟨RX0, "<init>", "()V"⟩ RX9, .methodLinkNest RX0 11 ⟨RX4, "<init>", "()V"⟩ RX9, .methodLinkNest RX9 32 ⟨RX1, "<init>", "()V"⟩ RX9, .methodLinkNest RX9 39 ⟨RX5, "<init>", "()V"⟩ RX9, .methodLinkNest RX9 49 ⟨RX8, "<init>", "()V"⟩ RX9, .methodLinkNest RX3 36 ⟨RX9, "isName", "(I)Z"⟩ RX9, .methodLinkNest RX3 43 ⟨RX4, "<init>", "()V"⟩ RX9, .methodLinkNest RX7 39 ⟨RX9, "isName", "(I)Z"⟩ RX9, .methodLinkNest RX2 38 ⟨RX9, "isSign", "(I)Z"⟩ RX9]
theorem gNw_warm {s U : State} (hW : s.WarmedH U.vm) (h : ∀ w ∈ gNw, va_Nw w s) : ∀ w ∈ gNw, va_Nw w U := by
  intro w hw
  have hh := h w hw
  simp only [gNw, List.mem_cons, List.not_mem_nil, or_false] at hw
  rcases hw with rfl | rfl | rfl | rfl | rfl | rfl | rfl | rfl | rfl | rfl | rfl <;> exact va_Nw.warmM hW hh
def gtys (ac : Nat → ClassId) : List (ClassId × FieldType) := [(ac 11, .byte), (ac 12, .int), (ac 13, .boolean), (ac 14, .long), (ac 15, .object RX4), (ac 16, .object RX6)]
/-- the world: the cells of every address of a kind above 0, and no other -/
def gW (D : va_G) (ac : Nat → ClassId) (A : Nat → Prop) (sh : Nat → Nat × Nat) (rf : Nat → Nat → Option Nat) (mem : Nat → Nat → Int) (H : Heap) : Prop :=
  ∃ L : List Nat, (∀ a, a ∈ L ↔ (sh a).1 ≠ 0) ∧ va_P D vwCl (va_pl L (gE ac sh rf mem)) H ∧ va_D A (va_pl L (gE ac sh rf mem))
def gAO (U : State) : Prop := va_AO RX4 U ∧ va_AO RX6 U
theorem gAO.moved {u U : State} (hvm : u.vm.Alike U.vm) (h : gAO u) : gAO U := ⟨h.1.moved hvm, h.2.moved hvm⟩
/-- what a frame stands in -/
abbrev gX : Type := Program × Launch × Env × Room × State × MethodId × Array Value × List Frame × Method × Code × Nat × va_G × (Nat → ClassId) × (Nat → Prop) × (State → Prop)
def gC (X : gX) (cc : ByteArray) (own : String) : Prop := match X with
  | (p, _, _, _, s, m, args, _, _, c, nL, D, ac, A, _) => (p.tables.exec = Jvm.exec ∧ c.code = cc ∧ c.maxLocals = nL ∧ s.vm.findClass own = some m.cls ∧ ∀ w ∈ wG, w.before args s = true) ∧ va_K D vwCl (gtys ac) s ∧ (∀ q, s.heap.size ≤ q → A q) ∧ (∀ w ∈ gNw, va_Nw w s) ∧ gAO s
def gRm (X : gX) : Room := X.2.2.2.1
def gl (X : gX) : Launch := X.2.1
def gD (X : gX) : va_G := X.2.2.2.2.2.2.2.2.2.2.2.1
def gac (X : gX) : Nat → ClassId := X.2.2.2.2.2.2.2.2.2.2.2.2.1
/-- the locals: some known, some not -/
def gL (ls : Array Slot) (nL : Nat) (lv : List (Option Value)) : Prop := ls.size = nL ∧ lv_wf ls ∧ lv.length = nL ∧ ∀ (i : Nat) (v : Value), lv[i]? = some (some v) → ls[i]? = some (.val v) ∧ v.category = 1
def gas (lv : List (Option Value)) : List (Nat × Value) := lv.zipIdx.filterMap (fun q => q.1.map (fun v => (q.2, v)))
theorem gas_mem {lv : List (Option Value)} {i : Nat} {v : Value} : (i, v) ∈ gas lv ↔ lv[i]? = some (some v) := by
  unfold gas
  rw [List.mem_filterMap]
  constructor
  · rintro ⟨⟨o, j⟩, h1, h2⟩
    cases o with
    | none => simp at h2
    | some w =>
      simp at h2
      obtain ⟨rfl, rfl⟩ := h2
      exact List.mem_zipIdx_iff_getElem?.mp h1
  · intro h
    exact ⟨(some v, i), List.mem_zipIdx_iff_getElem?.mpr h, rfl⟩
theorem gL.has {ls : Array Slot} {nL : Nat} {lv : List (Option Value)} (h : gL ls nL lv) : lv_has ls nL (gas lv) := ⟨h.1, h.2.1, fun q hq => (h.2.2.2 q.1 q.2 (gas_mem.mp hq)).1⟩
theorem gL.set {ls ls' : Array Slot} {nL i : Nat} {lv : List (Option Value)} {v : Value} (h : gL ls nL lv) (hv : v.category = 1) (h' : lv_has ls' nL ((i, v) :: (gas lv).filter (fun q => !(q.1 == i) && !(q.1 + 1 == i && q.2.category == 2)))) : gL ls' nL (lv.set i (some v)) := by
  refine ⟨h'.1, h'.2.1, by rw [List.length_set]; exact h.2.2.1, fun j w hj => ?_⟩
  by_cases hi : j = i
  · subst hi
    by_cases hl : j < lv.length
    · rw [List.getElem?_set_self hl] at hj
      cases hj
      exact ⟨h'.2.2 (j, v) List.mem_cons_self, hv⟩
    · rw [List.getElem?_eq_none (by rw [List.length_set]; omega)] at hj
      cases hj
  · rw [List.getElem?_set_ne (fun q => hi q.symm)] at hj
    have h1 := h.2.2.2 j w hj
    refine ⟨h'.2.2 (j, w) (List.mem_cons_of_mem _ (List.mem_filter.mpr ⟨gas_mem.mpr hj, ?_⟩)), h1.2⟩
    simp [hi, h1.2]
/-- the machine, at a place of a method, with these locals, this stack and this memory, comes to what is wanted -/
def gG (X : gX) (sh : Nat → Nat × Nat) (rf : Nat → Nat → Option Nat) (mem : Nat → Nat → Int) (cells slots pc : Nat) (lv : List (Option Value)) (st : List Value) : Prop := match X with
  | (p, l, e, R, s, m, args, below, meth, c, nL, D, ac, A, Q) => ∀ (H : Heap) (locs : List Loc) (ls : Array Slot), gW D ac A sh rf mem H → va_S A s.heap H locs → gL ls nL lv → W p l e R s m args below meth c H locs cells slots Q (F0 m pc ls st)
section GR
variable {X : gX} {cc : ByteArray} {own : String} {sh : Nat → Nat × Nat} {rf : Nat → Nat → Option Nat} {mem : Nat → Nat → Int} {cells slots pc : Nat} {lv : List (Option Value)} {st : List Value}
theorem g_iconst (hC : gC X cc own) {n : Int} (hd : decode cc pc = .ok (.iconst n, 1)) (k : gG X sh rf mem cells slots (pc + 1) lv (.int (iI n) :: st)) : gG X sh rf mem cells slots pc lv st := by
  obtain ⟨p, l, e, R, s, m, args, below, meth, c, nL, D, ac, A, Q⟩ := X
  obtain ⟨⟨hx, hb, -⟩, -⟩ := hC
  exact fun H locs ls hw hS hl => lv_iconst hx hb hd rfl (k H locs ls hw hS hl)
theorem g_bipush (hC : gC X cc own) {n : Int} (hd : decode cc pc = .ok (.bipush n, 2)) (hn : (Int8.ofInt n).toInt32 = iI n) (k : gG X sh rf mem cells slots (pc + 2) lv (.int (iI n) :: st)) : gG X sh rf mem cells slots pc lv st := by
  obtain ⟨p, l, e, R, s, m, args, below, meth, c, nL, D, ac, A, Q⟩ := X
  obtain ⟨⟨hx, hb, -⟩, -⟩ := hC
  exact fun H locs ls hw hS hl => lv_bipush hx hb hd hn (k H locs ls hw hS hl)
theorem g_sipush (hC : gC X cc own) {n : Int} (hd : decode cc pc = .ok (.sipush n, 3)) (hn : (Int16.ofInt n).toInt32 = iI n) (k : gG X sh rf mem cells slots (pc + 3) lv (.int (iI n) :: st)) : gG X sh rf mem cells slots pc lv st := by
  obtain ⟨p, l, e, R, s, m, args, below, meth, c, nL, D, ac, A, Q⟩ := X
  obtain ⟨⟨hx, hb, -⟩, -⟩ := hC
  exact fun H locs ls hw hS hl => lv_sipush hx hb hd hn (k H locs ls hw hS hl)
theorem g_iload_n (hC : gC X cc own) {i : Fin 4} {x : Int32} (hd : decode cc pc = .ok (.iload_n i, 1)) (hl : lv[(i : Nat)]? = some (some (.int x))) (k : gG X sh rf mem cells slots (pc + 1) lv (.int x :: st)) : gG X sh rf mem cells slots pc lv st := by
  obtain ⟨p, l, e, R, s, m, args, below, meth, c, nL, D, ac, A, Q⟩ := X
  obtain ⟨⟨hx, hb, -⟩, -⟩ := hC
  exact fun H locs ls hw hS h => lv_iload_n hx hb hd rfl (h.2.2.2 _ _ hl).1 (k H locs ls hw hS h)
theorem g_iload (hC : gC X cc own) {i : Nat} {x : Int32} (hd : decode cc pc = .ok (.iload i, 2)) (hl : lv[i]? = some (some (.int x))) (k : gG X sh rf mem cells slots (pc + 2) lv (.int x :: st)) : gG X sh rf mem cells slots pc lv st := by
  obtain ⟨p, l, e, R, s, m, args, below, meth, c, nL, D, ac, A, Q⟩ := X
  obtain ⟨⟨hx, hb, -⟩, -⟩ := hC
  exact fun H locs ls hw hS h => lv_iload hx hb hd (h.2.2.2 _ _ hl).1 (k H locs ls hw hS h)
theorem g_aload_n (hC : gC X cc own) {i : Fin 4} {x : Nat} (hd : decode cc pc = .ok (.aload_n i, 1)) (hl : lv[(i : Nat)]? = some (some (.ref x))) (k : gG X sh rf mem cells slots (pc + 1) lv (.ref x :: st)) : gG X sh rf mem cells slots pc lv st := by
  obtain ⟨p, l, e, R, s, m, args, below, meth, c, nL, D, ac, A, Q⟩ := X
  obtain ⟨⟨hx, hb, -⟩, -⟩ := hC
  exact fun H locs ls hw hS h => lv_aload_n hx hb hd rfl (h.2.2.2 _ _ hl).1 (k H locs ls hw hS h)
theorem g_aload (hC : gC X cc own) {i : Nat} {x : Nat} (hd : decode cc pc = .ok (.aload i, 2)) (hl : lv[i]? = some (some (.ref x))) (k : gG X sh rf mem cells slots (pc + 2) lv (.ref x :: st)) : gG X sh rf mem cells slots pc lv st := by
  obtain ⟨p, l, e, R, s, m, args, below, meth, c, nL, D, ac, A, Q⟩ := X
  obtain ⟨⟨hx, hb, -⟩, -⟩ := hC
  exact fun H locs ls hw hS h => lv_aload hx hb hd (h.2.2.2 _ _ hl).1 (k H locs ls hw hS h)
theorem g_aload_nN (hC : gC X cc own) {i : Fin 4} (hd : decode cc pc = .ok (.aload_n i, 1)) (hl : lv[(i : Nat)]? = some (some .null)) (k : gG X sh rf mem cells slots (pc + 1) lv (.null :: st)) : gG X sh rf mem cells slots pc lv st := by
  obtain ⟨p, l, e, R, s, m, args, below, meth, c, nL, D, ac, A, Q⟩ := X
  obtain ⟨⟨hx, hb, -⟩, -⟩ := hC
  exact fun H locs ls hw hS h => lv_aload_nN hx hb hd rfl (h.2.2.2 _ _ hl).1 (k H locs ls hw hS h)
theorem g_aloadN (hC : gC X cc own) {i : Nat} (hd : decode cc pc = .ok (.aload i, 2)) (hl : lv[i]? = some (some .null)) (k : gG X sh rf mem cells slots (pc + 2) lv (.null :: st)) : gG X sh rf mem cells slots pc lv st := by
  obtain ⟨p, l, e, R, s, m, args, below, meth, c, nL, D, ac, A, Q⟩ := X
  obtain ⟨⟨hx, hb, -⟩, -⟩ := hC
  exact fun H locs ls hw hS h => lv_aloadN hx hb hd (h.2.2.2 _ _ hl).1 (k H locs ls hw hS h)
theorem g_istore_n (hC : gC X cc own) (j : Nat) {i : Fin 4} {x : Int32} (hj : (i : Nat) = j) (hd : decode cc pc = .ok (.istore_n i, 1)) (hi : j < lv.length) (k : gG X sh rf mem cells slots (pc + 1) (lv.set j (some (.int x))) st) : gG X sh rf mem cells slots pc lv (.int x :: st) := by
  subst hj
  obtain ⟨p, l, e, R, s, m, args, below, meth, c, nL, D, ac, A, Q⟩ := X
  obtain ⟨⟨hx, hb, -⟩, -⟩ := hC
  exact fun H locs ls hw hS h => lv_istore_n hx hb hd rfl h.has (by rw [← h.2.2.1]; exact hi) rfl (fun ls' h' => k H locs ls' hw hS (h.set rfl h'))
theorem g_istore (hC : gC X cc own) {i : Nat} {x : Int32} (hd : decode cc pc = .ok (.istore i, 2)) (hi : i < lv.length) (k : gG X sh rf mem cells slots (pc + 2) (lv.set i (some (.int x))) st) : gG X sh rf mem cells slots pc lv (.int x :: st) := by
  obtain ⟨p, l, e, R, s, m, args, below, meth, c, nL, D, ac, A, Q⟩ := X
  obtain ⟨⟨hx, hb, -⟩, -⟩ := hC
  exact fun H locs ls hw hS h => lv_istore hx hb hd h.has (by rw [← h.2.2.1]; exact hi) rfl (fun ls' h' => k H locs ls' hw hS (h.set rfl h'))
theorem g_astore_n (hC : gC X cc own) (j : Nat) {i : Fin 4} {x : Nat} (hj : (i : Nat) = j) (hd : decode cc pc = .ok (.astore_n i, 1)) (hi : j < lv.length) (k : gG X sh rf mem cells slots (pc + 1) (lv.set j (some (.ref x))) st) : gG X sh rf mem cells slots pc lv (.ref x :: st) := by
  subst hj
  obtain ⟨p, l, e, R, s, m, args, below, meth, c, nL, D, ac, A, Q⟩ := X
  obtain ⟨⟨hx, hb, -⟩, -⟩ := hC
  exact fun H locs ls hw hS h => lv_astore_n hx hb hd rfl h.has (by rw [← h.2.2.1]; exact hi) rfl (fun ls' h' => k H locs ls' hw hS (h.set rfl h'))
theorem g_astore (hC : gC X cc own) {i : Nat} {x : Nat} (hd : decode cc pc = .ok (.astore i, 2)) (hi : i < lv.length) (k : gG X sh rf mem cells slots (pc + 2) (lv.set i (some (.ref x))) st) : gG X sh rf mem cells slots pc lv (.ref x :: st) := by
  obtain ⟨p, l, e, R, s, m, args, below, meth, c, nL, D, ac, A, Q⟩ := X
  obtain ⟨⟨hx, hb, -⟩, -⟩ := hC
  exact fun H locs ls hw hS h => lv_astore hx hb hd h.has (by rw [← h.2.2.1]; exact hi) rfl (fun ls' h' => k H locs ls' hw hS (h.set rfl h'))
theorem g_astore_nN (hC : gC X cc own) (j : Nat) {i : Fin 4} (hj : (i : Nat) = j) (hd : decode cc pc = .ok (.astore_n i, 1)) (hi : j < lv.length) (k : gG X sh rf mem cells slots (pc + 1) (lv.set j (some .null)) st) : gG X sh rf mem cells slots pc lv (.null :: st) := by
  subst hj
  obtain ⟨p, l, e, R, s, m, args, below, meth, c, nL, D, ac, A, Q⟩ := X
  obtain ⟨⟨hx, hb, -⟩, -⟩ := hC
  exact fun H locs ls hw hS h => lv_astore_nN hx hb hd rfl h.has (by rw [← h.2.2.1]; exact hi) rfl (fun ls' h' => k H locs ls' hw hS (h.set rfl h'))
theorem g_astoreN (hC : gC X cc own) {i : Nat} (hd : decode cc pc = .ok (.astore i, 2)) (hi : i < lv.length) (k : gG X sh rf mem cells slots (pc + 2) (lv.set i (some .null)) st) : gG X sh rf mem cells slots pc lv (.null :: st) := by
  obtain ⟨p, l, e, R, s, m, args, below, meth, c, nL, D, ac, A, Q⟩ := X
  obtain ⟨⟨hx, hb, -⟩, -⟩ := hC
  exact fun H locs ls hw hS h => lv_astoreN hx hb hd h.has (by rw [← h.2.2.1]; exact hi) rfl (fun ls' h' => k H locs ls' hw hS (h.set rfl h'))
theorem g_iinc (hC : gC X cc own) {i : Nat} {n a : Int} (hd : decode cc pc = .ok (.iinc i n, 3)) (hl : lv[i]? = some (some (.int (iI a)))) (k : gG X sh rf mem cells slots (pc + 3) (lv.set i (some (.int (iI (a + n))))) st) : gG X sh rf mem cells slots pc lv st := by
  obtain ⟨p, l, e, R, s, m, args, below, meth, c, nL, D, ac, A, Q⟩ := X
  obtain ⟨⟨hx, hb, -⟩, -⟩ := hC
  intro H locs ls hw hS h
  have hm := gas_mem.mpr hl
  obtain ⟨j, hj⟩ := List.getElem?_of_mem hm
  have hi : i < nL := by rw [← h.2.2.1]; exact (List.getElem?_eq_some_iff.mp hl).1
  exact lv_iinc hx hb hd h.has hj (iI_add a n) hi rfl (fun ls' h' => k H locs ls' hw hS (h.set rfl h'))
theorem g_iadd (hC : gC X cc own) {a b : Int} (hd : decode cc pc = .ok (.iadd, 1)) (k : gG X sh rf mem cells slots (pc + 1) lv (.int (iI (a + b)) :: st)) : gG X sh rf mem cells slots pc lv (.int (iI b) :: .int (iI a) :: st) := by
  obtain ⟨p, l, e, R, s, m, args, below, meth, c, nL, D, ac, A, Q⟩ := X
  obtain ⟨⟨hx, hb, -⟩, -⟩ := hC
  intro H locs ls hw hS hl
  refine lv_iadd hx hb hd ?_
  rw [iI_add]
  exact k H locs ls hw hS hl
theorem g_isub (hC : gC X cc own) {a b : Int} (hd : decode cc pc = .ok (.isub, 1)) (k : gG X sh rf mem cells slots (pc + 1) lv (.int (iI (a - b)) :: st)) : gG X sh rf mem cells slots pc lv (.int (iI b) :: .int (iI a) :: st) := by
  obtain ⟨p, l, e, R, s, m, args, below, meth, c, nL, D, ac, A, Q⟩ := X
  obtain ⟨⟨hx, hb, -⟩, -⟩ := hC
  intro H locs ls hw hS hl
  refine lv_isub hx hb hd ?_
  rw [iI_sub]
  exact k H locs ls hw hS hl
theorem g_imul (hC : gC X cc own) {a b : Int} (hd : decode cc pc = .ok (.imul, 1)) (k : gG X sh rf mem cells slots (pc + 1) lv (.int (iI (a * b)) :: st)) : gG X sh rf mem cells slots pc lv (.int (iI b) :: .int (iI a) :: st) := by
  obtain ⟨p, l, e, R, s, m, args, below, meth, c, nL, D, ac, A, Q⟩ := X
  obtain ⟨⟨hx, hb, -⟩, -⟩ := hC
  intro H locs ls hw hS hl
  refine lv_imul hx hb hd ?_
  rw [iI_mul]
  exact k H locs ls hw hS hl
theorem g_ineg (hC : gC X cc own) {a : Int} (hd : decode cc pc = .ok (.ineg, 1)) (k : gG X sh rf mem cells slots (pc + 1) lv (.int (iI (-a)) :: st)) : gG X sh rf mem cells slots pc lv (.int (iI a) :: st) := by
  obtain ⟨p, l, e, R, s, m, args, below, meth, c, nL, D, ac, A, Q⟩ := X
  obtain ⟨⟨hx, hb, -⟩, -⟩ := hC
  intro H locs ls hw hS hl
  refine lv_ineg hx hb hd ?_
  rw [iI_neg]
  exact k H locs ls hw hS hl
end GR
