/-! the class's octet where it throws -/
def aioN : String := "java/lang/ArrayIndexOutOfBoundsException"
def aioL : List String := ["java/lang/IndexOutOfBoundsException", "java/lang/RuntimeException", "java/lang/Exception"]
def thA : List Cond := Bundle.ownAtoms0 RX9 196 aioN aioL
def thD : List MethodName := [Bundle.init0 "java/lang/IndexOutOfBoundsException", Bundle.init0 "java/lang/RuntimeException", Bundle.init0 "java/lang/Exception", Bundle.init0 Bundle.tN]
def thN : List Cond := thD.map Cond.declares ++ [.castable aioN aioN, .laysStatic Bundle.tN "UNASSIGNED_STACK" Bundle.steD, .laysStatic Bundle.tN "SUPPRESSED_SENTINEL" Bundle.listD, .isRef (.static Bundle.tN "UNASSIGNED_STACK" Bundle.steD), .isRef (.static Bundle.tN "SUPPRESSED_SENTINEL" Bundle.listD)]
theorem thA_all : thA.all (fun w => (tables_1.contains w && goodWord w) || thN.contains w) = true := by decide +kernel
theorem thA_in {w : Cond} (h : w ∈ thA) : w ∈ wG ∨ w ∈ thN := by
  have q := List.all_eq_true.mp thA_all w h
  simp only [Bool.or_eq_true, Bool.and_eq_true] at q
  rcases q with ⟨q1, q2⟩ | q
  · exact Or.inl (wG_mem (List.mem_append_right _ (List.contains_iff_mem.mp q1)) q2)
  · exact Or.inr (List.contains_iff_mem.mp q)
theorem cl9_194 : Cond.classLink RX9 194 aioN ∈ wG := wG_tab 749 (by decide +kernel) (by decide +kernel)
theorem aio_in : Cond.instantiable aioN 6 ∈ wG := wG_tab 750 (by decide +kernel) (by decide +kernel)
theorem aio_ok : Cond.initialized aioN ∈ wG := wG_tab 17 (by decide +kernel) (by decide +kernel)
/-- a static of references, in a cell that isn't of A -/
def ssK (C n d : String) (A : Nat → Prop) (U : State) (H : Heap) : Prop := ∃ (c : ClassId) (k : Class) (i : Nat) (f : Field) (a : Nat) (cell : Cell) (v : Value), U.vm.findClass C = some c ∧ U.fieldFound? C n d = some (c, k, i, f) ∧ f.isStatic = true ∧ k.statics = some a ∧ H[a]? = some cell ∧ cell.vm.isStatics = true ∧ cell.cls = c ∧ f.slot < cell.slots.size ∧ k.staticTypes[f.slot]? = some f.type ∧ cell.slots[f.slot]? = some v ∧ v.isRef = true ∧ ¬ A a
theorem ssK.moved {C n d : String} {A : Nat → Prop} {u U : State} {H : Heap} (hvm : u.vm.Alike U.vm) (h : ssK C n d A u H) : ssK C n d A U H := by
  obtain ⟨c, k, i, f, a, cell, v, h0, h1, h2, h3, h4, h5, h6, h7, h8, h9⟩ := h
  obtain ⟨k', hi', he⟩ := State.fieldFound?_setVm hvm h1
  exact ⟨c, k', i, f, a, cell, v, by rw [hvm.findClass]; exact h0, hi', h2, by rw [he]; exact h3, h4, h5, h6, h7, by rw [he]; exact h8, h9⟩
theorem ssK.kept {C n d : String} {A : Nat → Prop} {U : State} {H H1 : Heap} (h : ssK C n d A U H) (hq : ∀ a : Nat, a < H.size → ¬ A a → H1[a]? = H[a]?) : ssK C n d A U H1 := by
  obtain ⟨c, k, i, f, a, cell, v, h0, h1, h2, h3, h4, h5, h6, h7, h8, h9, h10, h11⟩ := h
  exact ⟨c, k, i, f, a, cell, v, h0, h1, h2, h3, by rw [hq a (Array.getElem?_eq_some_iff.mp h4).1 h11]; exact h4, h5, h6, h7, h8, h9, h10, h11⟩
theorem ssK.narrow {C n d : String} {A B : Nat → Prop} {U : State} {H : Heap} (h : ssK C n d A U H) (hAB : ∀ q, B q → A q) : ssK C n d B U H := by
  obtain ⟨c, k, i, f, a, cell, v, h0, h1, h2, h3, h4, h5, h6, h7, h8, h9, h10, h11⟩ := h
  exact ⟨c, k, i, f, a, cell, v, h0, h1, h2, h3, h4, h5, h6, h7, h8, h9, h10, fun z => h11 (hAB a z)⟩
theorem ssK.lays {C n d : String} {A : Nat → Prop} {U : State} {args : Array Value} (h : ssK C n d A U U.heap) : (Cond.laysStatic C n d).before args U = true := by
  obtain ⟨c, k, i, f, a, cell, v, h0, h1, h2, h3, h4, h5, h6, h7, h8, h9, h10, h11⟩ := h
  simp [Cond.before, Cond.holds, Cond.value, h0, h1, h2, h3, h4, h5, h6, h7, h8]
theorem ssK.isr {C n d : String} {A : Nat → Prop} {U : State} {args : Array Value} (h : ssK C n d A U U.heap) : (Cond.isRef (.static C n d)).before args U = true := by
  obtain ⟨c, k, i, f, a, cell, v, h0, h1, h2, h3, h4, h5, h6, h7, h8, h9, h10, h11⟩ := h
  have he : (Term.static C n d).eval args U none [] U = some v := by simp [Term.eval, State.fieldNamed?, h1, h2, h3, h4, h5, h9]
  cases v <;> simp [Value.isRef] at h10 <;> simp [Cond.before, Cond.holds, Cond.value, he]
theorem ssK.of {C n d : String} {A : Nat → Prop} {s : State} {args : Array Value} (hl : (Cond.laysStatic C n d).before args s = true) (hr : (Cond.isRef (.static C n d)).before args s = true) (hA : ∀ a : Nat, a < s.heap.size → ¬ A a) : ssK C n d A s s.heap := by
  obtain ⟨c, k, i, f, a, cell, h0, h1, h2, h3, h4, h5, h6, h7, h8⟩ := Cond.laysStatic_spec hl
  have he : (Term.static C n d).eval args s none [] s = cell.slots[f.slot]? := by simp [Term.eval, State.fieldNamed?, h1, h2, h3, h4, h5]
  cases hv : cell.slots[f.slot]? with
  | none => rw [hv] at he; simp [Cond.before, Cond.holds, Cond.value, he] at hr
  | some v =>
    rw [hv] at he
    refine ⟨c, k, i, f, a, cell, v, h0, h1, h2, h3, h4, h5, h6, h7, h8, hv, ?_, hA a (Array.getElem?_eq_some_iff.mp h4).1⟩
    cases v <;> simp [Cond.before, Cond.holds, Cond.value, he] at hr <;> rfl
/-- what the throw asks of the state beside the steady words -/
def thK (A : Nat → Prop) (U : State) (H : Heap) : Prop := (∀ y ∈ thD, (Cond.declares y).before #[] U = true) ∧ (Cond.castable aioN aioN).before #[] U = true ∧ ssK Bundle.tN "UNASSIGNED_STACK" Bundle.steD A U H ∧ ssK Bundle.tN "SUPPRESSED_SENTINEL" Bundle.listD A U H
theorem tab_mv {u U : State} {c : Cond} (hc : c.onTables = true) (h : c.before #[] (u.setVm U.vm) = true) : c.before #[] U = true := by
  have e := Cond.onTables_vm (A := #[]) (A' := #[]) (U := u) (U' := U) U.vm c hc
  have hU : U.setVm U.vm = U := rfl
  rw [hU] at e
  rw [← e]
  exact h
theorem thK.moved {A : Nat → Prop} {u U : State} {H : Heap} (hvm : u.vm.Alike U.vm) (h : thK A u H) : thK A U H :=
  ⟨fun y hy => tab_mv (u := u) rfl (by rw [Cond.declares_setVm hvm]; exact h.1 y hy), tab_mv (u := u) rfl (by rw [Cond.castable_setVm hvm]; exact h.2.1), h.2.2.1.moved hvm, h.2.2.2.moved hvm⟩
theorem thK.kept {A : Nat → Prop} {U : State} {H H1 : Heap} (h : thK A U H) (hq : ∀ a : Nat, a < H.size → ¬ A a → H1[a]? = H[a]?) : thK A U H1 := ⟨h.1, h.2.1, h.2.2.1.kept hq, h.2.2.2.kept hq⟩
theorem thK.narrow {A B : Nat → Prop} {U : State} {H : Heap} (h : thK A U H) (hAB : ∀ q, B q → A q) : thK B U H := ⟨h.1, h.2.1, h.2.2.1.narrow hAB, h.2.2.2.narrow hAB⟩
theorem thK.use {A : Nat → Prop} {U : State} {args : Array Value} (h : thK A U U.heap) (hts : ∀ w ∈ wG, w.before args U = true) : ∀ w ∈ thA, w.before args U = true := by
  intro w hw
  rcases thA_in hw with q | q
  · exact hts w q
  · rcases List.mem_append.mp q with q | q
    · obtain ⟨y, hy, rfl⟩ := List.mem_map.mp q
      exact va_any rfl (h.1 y hy)
    · simp only [List.mem_cons, List.not_mem_nil, or_false] at q
      rcases q with rfl | rfl | rfl | rfl | rfl
      · exact va_any rfl h.2.1
      · exact h.2.2.1.lays
      · exact h.2.2.2.lays
      · exact h.2.2.1.isr
      · exact h.2.2.2.isr
set_option maxHeartbeats 4000000 in
set_option maxRecDepth 100000 in
theorem hX5_has (l : Launch) (D : va_G) (ac : Nat → ClassId) {sh : Nat → Nat × Nat} {rf : Nat → Nat → Option Nat} {mem : Nat → Nat → Int} {a a0 : Nat} {ob : List Int} {i : Int} (hO : OcO sh rf a a0) (hv : OcV mem a a0 ob) (h_i : inR i) (hn : ¬ (0 ≤ i ∧ i < ob.length)) : Met l mX5_has.1 (.code mX5_has.1 mX5_has.2.1 mX5_has.2.2.1 mX5_has.2.2.2 :: wG) (gRo 0 0 0) (va_Pc [.ref a, .int (iI i)] (fun U => va_K D vwCl (gtys ac) U ∧ gW D ac (fun _ => True) sh rf mem U.heap)) (fun _ st o t => o = .returned (some (.int (iI 0))) ∧ t.heap = st.heap) 0 0 (fun _ => False) := by
  refine Met.ofW (cc := mX5_has.2.1) (maxL := mX5_has.2.2.1) (ret := mX5_has.2.2.2) (by decide) rfl ?_
  intro p e s m args below meth c s₁ B hml hP
  obtain ⟨rfl, hK, hW⟩ := hP
  have hts0 := atoms_spec (ws := (.code mX5_has.1 mX5_has.2.1 mX5_has.2.2.1 mX5_has.2.2.2 :: wG)) B.pre
  have hts := fun (w : Cond) (hw : w ∈ wG) => hts0 w (List.mem_cons_of_mem _ hw)
  have hown : s.vm.findClass RX5 = some m.cls := findClass_of_methodNamed B.named
  have hx := B.exec
  have hb : c.code = cX5_has := B.bytes
  have hr : meth.sig.returnType = some .boolean := B.returns
  have hl := lv_entry [Value.ref a, Value.int (iI i)] (n := 2) (Nat.le_of_ble_eq_true rfl)
  rw [lg_entry_eq]
  show W _ _ _ _ _ _ _ _ _ _ _ _ _ _ _ (F0 m 0 (lg_sl [Value.ref a, Value.int (iI i)] ++ List.replicate (2 - (lg_sl [Value.ref a, Value.int (iI i)]).length) Slot.unset).toArray [])
  generalize (lg_sl [Value.ref a, Value.int (iI i)] ++ List.replicate (2 - (lg_sl [Value.ref a, Value.int (iI i)]).length) Slot.unset).toArray = ls at hl ⊢
  have hl : lv_has ls 2 [(0, .ref a), (1, .int (iI i))] := hl
  obtain ⟨L, hL, hP, hD⟩ := hW
  obtain ⟨ho, hr0, hs0⟩ := hO
  obtain ⟨hv1, hv2, hv3⟩ := hv
  obtain ⟨i1, i2⟩ := h_i
  have z0 : inR 0 := ⟨by decide, by decide⟩
  obtain ⟨C, T, N, tf, hc, hin, hkN, hlk, hC1, hfin, hfl, hci, hty, hnm, htk⟩ := fdX5_15
  obtain ⟨q0, hq⟩ := gW_get (D := D) (A := fun _ => True) (H := s.heap) (rf := rf) (mem := mem) (ac := ac) hL (a := a) (by rw [ho]; decide)
  rw [gE_o ho hci] at hq
  refine lv_iload_n hx hb dX5_has_0 rfl (lv_at hl 1 rfl) ?_
  refine lv_if_lt (tgt := 16) hx hb dX5_has_1 (by decide) (fun q => ?_) (fun q => ?_)
  · refine lv_iconst hx hb dX5_has_16 rfl ?_
    exact W.zret hx hb hr (by decide +kernel) (fun t ht hW => ⟨rfl, ht⟩) (fun q hq => by cases hq) dX5_has_17 B.notSynchronized
  · have hi0 : 0 ≤ i := Int.not_lt.mp (fun w => q ((iI_lt ⟨i1, i2⟩ z0).mpr w))
    refine lv_iload_n hx hb dX5_has_4 rfl (lv_at hl 1 rfl) ?_
    refine lv_aload_n hx hb dX5_has_5 rfl (lv_at hl 0 rfl) ?_
    refine va_get (ci := 5) hx hb hts hin hown hK hP q0 hq hc 1 hkN (hts _ hlk) (fun x hx1 => by rw [hC1] at hx1; exact hx1) (gfs_get _ _ _ 0 1 false hfl) dX5_has_6 ?_
    show W _ _ _ _ _ _ _ _ _ _ _ _ _ _ _ (F0 m 9 ls [.int (iI (mem a 1)), .int (iI i)])
    refine lv_icmp_ge (tgt := 16) hx hb dX5_has_9 (by decide) (fun q => ?_) (fun q2 => ?_)
    · refine lv_iconst hx hb dX5_has_16 rfl ?_
      exact W.zret hx hb hr (by decide +kernel) (fun t ht hW => ⟨rfl, ht⟩) (fun q hq => by cases hq) dX5_has_17 B.notSynchronized
    · exfalso
      have := Int.not_le.mp (fun w => q2 ((iI_le (show inR (mem a 1) from ⟨by omega, by omega⟩) ⟨i1, i2⟩).mpr w))
      omega
