/-! contracts over the memory; entry, returns, calls -/
abbrev gMd : Type := MethodName × ByteArray × Nat × Option FieldType
def gRo (d mc ms : Nat) : Room := { frames := d, cells := mc, slots := ms, locals := 40 * d }
def gA (sh : Nat → Nat × Nat) (sz : Nat) : Nat → Prop := fun q => (sh q).1 ≠ 0 ∨ sz ≤ q
def gPre (D : va_G) (ac : Nat → ClassId) (sh : Nat → Nat × Nat) (rf : Nat → Nat → Option Nat) (mem : Nat → Nat → Int) (sz : Nat) (U : State) : Prop := U.heap.size = sz ∧ va_K D vwCl (gtys ac) U ∧ (∀ w ∈ gNw, va_Nw w U) ∧ gAO U ∧ gW D ac (fun _ => True) sh rf mem U.heap
abbrev gPo : Type := Option Value → (Nat → Nat × Nat) → (Nat → Nat → Option Nat) → (Nat → Nat → Int) → Prop
def gQ (D : va_G) (ac : Nat → ClassId) (A : Nat → Prop) (post : gPo) : Array Value → State → Outcome → State → Prop := fun _ st oc t => (∃ (v : Option Value) (sh : Nat → Nat × Nat) (rf : Nat → Nat → Option Nat) (mem : Nat → Nat → Int), oc = .returned v ∧ post v sh rf mem ∧ gW D ac A sh rf mem t.heap) ∧ va_F A st t
/-- a method's contract: from any state with this memory and these arguments it returns, and post holds of what it answers and of the memory then; d frames, mc cells of ms slots at most -/
def gMet (l : Launch) (D : va_G) (ac : Nat → ClassId) (M : gMd) (d : Nat) (av : List Value) (mc ms : Nat) (sh : Nat → Nat × Nat) (rf : Nat → Nat → Option Nat) (mem : Nat → Nat → Int) (post : gPo) : Prop :=
  ∀ sz, Met l M.1 (.code M.1 M.2.1 M.2.2.1 M.2.2.2 :: wG) (gRo d mc ms) (va_Pc av (gPre D ac sh rf mem sz)) (gQ D ac (gA sh sz) post) mc ms (gA sh sz)
def gIn (X : gX) (M : gMd) (d mc ms : Nat) (post : gPo) : Prop := match X with
  | (_, _, _, R, s, _, args, below, meth, _, _, D, ac, A, Q) => R = gRo d mc ms ∧ meth.sig.returnType = M.2.2.2 ∧ meth.locks = false ∧ Q = MQ below (gQ D ac A post) args s mc ms A ∧ meth.name = M.1.name
theorem gIn.rm {X : gX} {M : gMd} {d mc ms : Nat} {post : gPo} (h : gIn X M d mc ms post) : gRm X = gRo d mc ms := by
  obtain ⟨p, l, e, R, s, m, args, below, meth, c, nL, D, ac, A, Q⟩ := X
  exact h.1
theorem gIn.nm {X : gX} {M : gMd} {d mc ms : Nat} {post : gPo} (h : gIn X M d mc ms post) : X.2.2.2.2.2.2.2.2.1.name = M.1.name := by
  obtain ⟨p, l, e, R, s, m, args, below, meth, c, nL, D, ac, A, Q⟩ := X
  exact h.2.2.2.2
theorem gargs_mem : ∀ (av : List Value) (k i : Nat) (v : Value), (∀ v ∈ av, v.category = 1) → av[i]? = some v → (k + i, v) ∈ lv_args k av
  | [], _, _, _, _, h => by simp at h
  | w :: t, k, 0, v, hc, h => by
    simp at h
    subst h
    simp [lv_args]
  | w :: t, k, i + 1, v, hc, h => by
    simp at h
    have hw : w.category = 1 := hc w List.mem_cons_self
    simp only [lv_args, hw]
    refine List.mem_cons_of_mem _ ?_
    have h2 := gargs_mem t (k + 1) i v (fun v hv => hc v (List.mem_cons_of_mem _ hv)) h
    rw [show k + 1 + i = k + (i + 1) by omega] at h2
    simpa using h2
theorem gsl_len : ∀ (av : List Value), (∀ v ∈ av, v.category = 1) → (lg_sl av).length = av.length
  | [], _ => rfl
  | w :: t, hc => by
    have hw : w.category = 1 := hc w List.mem_cons_self
    have h2 := gsl_len t (fun v hv => hc v (List.mem_cons_of_mem _ hv))
    unfold lg_sl at h2 ⊢
    rw [List.flatMap_cons]
    simp [hw]
    simpa using h2
theorem gW.weaken {D : va_G} {ac : Nat → ClassId} {A B : Nat → Prop} {sh : Nat → Nat × Nat} {rf : Nat → Nat → Option Nat} {mem : Nat → Nat → Int} {H : Heap} (h : gW D ac A sh rf mem H) (hAB : ∀ q, (sh q).1 ≠ 0 → A q → B q) : gW D ac B sh rf mem H := by
  obtain ⟨L, hL, hP, hD⟩ := h
  refine ⟨L, hL, hP, hD.weaken (fun k q hk ha => hAB q.1 ?_ ha)⟩
  have hm := List.mem_of_getElem? hk
  obtain ⟨a, ha1, rfl⟩ := List.mem_map.mp hm
  exact (hL a).mp ha1
theorem gPre_blind {D : va_G} {ac : Nat → ClassId} {sh : Nat → Nat × Nat} {rf : Nat → Nat → Option Nat} {mem : Nat → Nat → Int} {sz : Nat} {av : List Value} : FrameBlind (va_Pc av (gPre D ac sh rf mem sz)) := by
  intro a U g mk h
  obtain ⟨h1, h2, h3, h4, h5, h6⟩ := h
  refine ⟨h1, h2, va_K.moved (u := U) (U := U.calling g mk a) (Vm.Alike.refl U.vm) h3, fun w hw => ?_, gAO.moved (u := U) (U := U.calling g mk a) (Vm.Alike.refl U.vm) h5, h6⟩
  have hh := h4 w hw
  simp only [gNw, List.mem_cons, List.not_mem_nil, or_false] at hw
  rcases hw with rfl | rfl | rfl | rfl | rfl | rfl | rfl | rfl | rfl | rfl | rfl <;> exact va_Nw.same rfl rfl hh
theorem gMet.mk {l : Launch} {D : va_G} {ac : Nat → ClassId} {M : gMd} {d : Nat} {av : List Value} {mc ms : Nat} {sh : Nat → Nat × Nat} {rf : Nat → Nat → Option Nat} {mem : Nat → Nat → Int} {post : gPo} (hpl : plainName M.1.cls = true) (hcat : ∀ v ∈ av, v.category = 1) (hlen : av.length ≤ M.2.2.1)
    (body : ∀ X : gX, gC X M.2.1 M.1.cls → gIn X M d mc ms post → gG X sh rf mem 0 0 0 (av.map some ++ List.replicate (M.2.2.1 - av.length) none) []) : gMet l D ac M d av mc ms sh rf mem post := by
  intro sz
  refine Met.ofW (cc := M.2.1) (maxL := M.2.2.1) (ret := M.2.2.2) hpl rfl ?_
  intro p e s m args below meth c s₁ B hml hv
  obtain ⟨rfl, hsz, hK, hN, hO, hW⟩ := hv
  have hts := atoms_spec (ws := .code M.1 M.2.1 M.2.2.1 M.2.2.2 :: wG) B.pre
  have hown : s.vm.findClass M.1.cls = some m.cls := findClass_of_methodNamed B.named
  have hin : meth.name = M.1.name := (name_of_methodNamed B.named B.method).1
  have hl := lv_entry av (n := M.2.2.1) (by rw [gsl_len av hcat]; exact hlen)
  rw [lg_entry_eq]
  generalize (lg_sl av ++ List.replicate (M.2.2.1 - (lg_sl av).length) Slot.unset).toArray = ls at hl ⊢
  have hg : gL ls M.2.2.1 (av.map some ++ List.replicate (M.2.2.1 - av.length) none) := by
    refine ⟨hl.1, hl.2.1, by simp; omega, fun i v hi => ?_⟩
    by_cases hi2 : i < av.length
    · rw [List.getElem?_append_left (by simpa using hi2)] at hi
      simp at hi
      have h3 := gargs_mem av 0 i v hcat hi
      rw [Nat.zero_add] at h3
      exact ⟨hl.2.2 _ h3, hcat v (List.mem_of_getElem? hi)⟩
    · rw [List.getElem?_append_right (by simpa using hi2)] at hi
      rw [List.getElem?_replicate] at hi
      split at hi <;> simp at hi
  exact body (p, l, e, (headSpec (.code M.1 M.2.1 M.2.2.1 M.2.2.2 :: wG) (gRo d mc ms)).room, s, m, av.toArray, below, meth, c, M.2.2.1, D, ac, gA sh sz, MQ below (gQ D ac (gA sh sz) post) av.toArray s mc ms (gA sh sz)) ⟨⟨B.exec, B.bytes, hml, hown, fun w hw => hts w (List.mem_cons_of_mem _ hw)⟩, hK, fun q h => Or.inr (by rw [← hsz]; exact h), hN, hO⟩ ⟨rfl, B.returns, B.notSynchronized, rfl, hin⟩ s.heap [] ls (hW.weaken (fun q h _ => Or.inl h)) va_S.rf hg
section GR5
variable {X : gX} {cc : ByteArray} {own : String} {sh : Nat → Nat × Nat} {rf : Nat → Nat → Option Nat} {mem : Nat → Nat → Int} {cells slots pc : Nat} {lv : List (Option Value)} {st : List Value} {M0 : gMd} {d0 mc0 ms0 : Nat} {post0 : gPo}
theorem g_iret (hC : gC X cc own) (hI : gIn X M0 d0 mc0 ms0 post0) (hr : M0.2.2.2 = some .int) {r : Int} (hd : decode cc pc = .ok (.ireturn, 1)) (hc : cells ≤ mc0) (hs : slots ≤ ms0) (hp : post0 (some (.int (iI r))) sh rf mem) : gG X sh rf mem cells slots pc lv [.int (iI r)] := by
  obtain ⟨p, l, e, R, s, m, args, below, meth, c, nL, D, ac, A, Q⟩ := X
  obtain ⟨⟨hx, hb, hml, hown, hts⟩, hK, hA, hN, hO⟩ := hC
  obtain ⟨h1, h2, h3, h4, h5⟩ := hI
  subst h4
  intro H locs ls hw hS hl
  exact W.widen hc hs (W.iret hx hb (h2.trans hr) (fun t ht hW => ⟨⟨_, sh, rf, mem, rfl, hp, by rw [ht]; exact hw⟩, hS.F ht⟩) hS.2.2 hd h3)
theorem g_zret (hC : gC X cc own) (hI : gIn X M0 d0 mc0 ms0 post0) {ty : FieldType} (hr : M0.2.2.2 = some ty) {r : Int} (hn : narrow ty (.int (iI r)) = .int (iI r)) (hd : decode cc pc = .ok (.ireturn, 1)) (hc : cells ≤ mc0) (hs : slots ≤ ms0) (hp : post0 (some (.int (iI r))) sh rf mem) : gG X sh rf mem cells slots pc lv [.int (iI r)] := by
  obtain ⟨p, l, e, R, s, m, args, below, meth, c, nL, D, ac, A, Q⟩ := X
  obtain ⟨⟨hx, hb, hml, hown, hts⟩, hK, hA, hN, hO⟩ := hC
  obtain ⟨h1, h2, h3, h4, h5⟩ := hI
  subst h4
  intro H locs ls hw hS hl
  exact W.widen hc hs (W.zret hx hb (h2.trans hr) hn (fun t ht hW => ⟨⟨_, sh, rf, mem, rfl, hp, by rw [ht]; exact hw⟩, hS.F ht⟩) hS.2.2 hd h3)
theorem g_vret (hC : gC X cc own) (hI : gIn X M0 d0 mc0 ms0 post0) (hr : M0.2.2.2 = none) (hd : decode cc pc = .ok (.return_, 1)) (hc : cells ≤ mc0) (hs : slots ≤ ms0) (hp : post0 none sh rf mem) : gG X sh rf mem cells slots pc lv [] := by
  obtain ⟨p, l, e, R, s, m, args, below, meth, c, nL, D, ac, A, Q⟩ := X
  obtain ⟨⟨hx, hb, hml, hown, hts⟩, hK, hA, hN, hO⟩ := hC
  obtain ⟨h1, h2, h3, h4, h5⟩ := hI
  subst h4
  intro H locs ls hw hS hl
  exact W.widen hc hs (W.vret hx hb (h2.trans hr) (fun t ht hW => ⟨⟨_, sh, rf, mem, rfl, hp, by rw [ht]; exact hw⟩, hS.F ht⟩) hS.2.2 hd h3)
theorem g_aret (hC : gC X cc own) (hI : gIn X M0 d0 mc0 ms0 post0) {n : String} (hr : M0.2.2.2 = some (.object n)) {r : Option Nat} (hd : decode cc pc = .ok (.areturn, 1)) (hc : cells ≤ mc0) (hs : slots ≤ ms0) (hp : post0 (some (va_rf r)) sh rf mem) : gG X sh rf mem cells slots pc lv [va_rf r] := by
  obtain ⟨p, l, e, R, s, m, args, below, meth, c, nL, D, ac, A, Q⟩ := X
  obtain ⟨⟨hx, hb, hml, hown, hts⟩, hK, hA, hN, hO⟩ := hC
  obtain ⟨h1, h2, h3, h4, h5⟩ := hI
  subst h4
  intro H locs ls hw hS hl
  exact W.widen hc hs (W.aret hx hb (h2.trans hr) (Or.inl ⟨n, rfl⟩) (va_rf_or r) (fun t ht hW => ⟨⟨_, sh, rf, mem, rfl, hp, by rw [ht]; exact hw⟩, hS.F ht⟩) hS.2.2 hd h3)
theorem g_objInit (hC : gC X cc own) {idx a : Nat} (hlk : Cond.methodLink own idx Lib.objectInit ∈ wG) (hin : Cond.instanceMethod Lib.objectInit ∈ wG) (hco : Cond.code Lib.objectInit ⟨#[0xb1]⟩ 1 none ∈ wG) (hR : 1 ≤ (gRm X).frames) (hR2 : (st.map fun v => v.category).sum + 12 ≤ (gRm X).locals) (hd : decode cc pc = .ok (.invokespecial idx, 3)) (kk : gG X sh rf mem cells slots (pc + 3) lv st) : gG X sh rf mem cells slots pc lv (.ref a :: st) := by
  obtain ⟨p, l, e, R, s, m, args, below, meth, c, nL, D, ac, A, Q⟩ := X
  obtain ⟨⟨hx, hb, hml, hown, hts⟩, hK, hA, hN, hO⟩ := hC
  intro H locs ls hw hS hl
  refine W.objInit hx hb hown (hts _ hlk) (hts _ hin) (hts _ hco) rfl (by rw [hml]; exact hl.1) rfl hd hR ?_ (kk H locs ls hw hS hl)
  have h9 : (st.map fun v => v.category).sum + 12 ≤ R.locals := hR2
  simpa [JFrame.monitorRoom] using h9
end GR5
section GRUN
variable {p : Program} {l : Launch} {e : Env} {R : Room} {s : State} {m : MethodId} {args : Array Value} {below : List Frame} {meth : Method} {c : Code} {H : Heap} {locs : List Loc} {cells slots : Nat} {Q : State → Prop}
theorem g_run {pc mc ms : Nat} {ls : Array Slot} {st0 rest : List Value} {a : Array Value} {D : va_G} {ac : Nat → ClassId} {A0 A1 : Nat → Prop} {post : gPo} (hr : va_Run p l e R s m args below meth c H locs cells slots mc ms (F0 m pc ls st0) rest (gQ D ac A1 post a) A1) (hS : va_S A0 s.heap H locs) (hA : ∀ q, A1 q → A0 q)
    (kk : ∀ (v : Option Value) (sh : Nat → Nat × Nat) (rf : Nat → Nat → Option Nat) (mem : Nat → Nat → Int) (H1 : Heap) (locs1 : List Loc), post v sh rf mem → gW D ac A0 sh rf mem H1 → va_S A0 s.heap H1 locs1 → W p l e R s m args below meth c H1 locs1 (cells + mc) (slots + ms) Q (F0 m (pc + 3) ls (v.toList ++ rest))) : W p l e R s m args below meth c H locs cells slots Q (F0 m pc ls st0) := by
  intro T hT X
  obtain ⟨v, st₀, t, T', L, h0, X', hL, e1, e2, ⟨⟨v', sh, rf, mem, hv, hp, hb⟩, hz, hk⟩, st⟩ := hr T hT X
  cases hv
  rw [h0] at hz hk
  obtain ⟨t2, a1, b1⟩ := kk v sh rf mem T'.heap (locs ++ L) hp (by rw [e1]; exact hb.weaken (fun q _ h => hA q h))
    ⟨Nat.le_trans hS.1 (by rw [e1]; exact hz), fun q h1 h2 => by rw [e1, hk q (Nat.lt_of_lt_of_le h1 hS.1) (fun z => h2 (hA q z))]; exact hS.2.1 q h1 h2, fun q hq => by
      rcases List.mem_append.mp hq with h | h
      · exact hS.2.2 q h
      · exact hA _ (hL q h)⟩ T' rfl X'
  exact ⟨t2, st t2 a1, b1⟩
end GRUN
/-- what a call asks of the words of the method that it calls -/
def gCd (M : gMd) (n : Nat) : Prop := Cond.code M.1 M.2.1 M.2.2.1 M.2.2.2 ∈ wG ∧ Cond.initialized M.1.cls ∈ wG ∧ M.1.cls ≠ "java/lang/invoke/MethodHandle" ∧ M.1.cls ≠ "java/lang/invoke/VarHandle" ∧ (parseMethodDescriptor M.1.desc).map (fun d => d.parameters.length) = some n ∧ M.2.2.1 ≤ 21
def gCv (M : gMd) (n ci : Nat) : Prop := gCd M n ∧ Cond.instanceMethod M.1 ∈ wG ∧ Cond.selects M.1.cls M.1 M.1 ∈ wG ∧ (∃ T N, vwCl[ci]? = some (M.1.cls, T, N)) ∧ ci ≠ 0 ∧ ci ≤ 10
def gCs (M : gMd) (n : Nat) : Prop := gCd M n ∧ Cond.static M.1 ∈ wG
def gCi (M : gMd) (n : Nat) : Prop := gCd M n ∧ M.1.name = "<init>" ∧ Cond.instanceMethod M.1 ∈ wG ∧ M.2.2.2 = none
def gFit (X : gX) (d mc ms cells slots : Nat) : Prop := d + 1 ≤ (gRm X).frames ∧ 40 + 40 * d ≤ (gRm X).locals ∧ cells + mc ≤ (gRm X).cells ∧ slots + ms ≤ (gRm X).slots
theorem gIn.fit {X : gX} {M : gMd} {d0 mc0 ms0 d mc ms cells slots : Nat} {post : gPo} (h : gIn X M d0 mc0 ms0 post) (hd : d < d0) (h1 : cells + mc ≤ mc0) (h2 : slots + ms ≤ ms0) : gFit X d mc ms cells slots := by
  unfold gFit
  rw [h.rm]
  exact ⟨hd, by show _ ≤ 40 * d0; omega, h1, h2⟩
section GR6
variable {X : gX} {cc : ByteArray} {own : String} {sh : Nat → Nat × Nat} {rf : Nat → Nat → Option Nat} {mem : Nat → Nat → Int} {cells slots pc : Nat} {lv : List (Option Value)} {st st0 : List Value} {M : gMd} {d mc ms n idx ci : Nat} {post : gPo} {As : List Value}
theorem g_callV (hC : gC X cc own) {a k : Nat} (hM : gMet (gl X) (gD X) (gac X) M d (.ref a :: As) mc ms sh rf mem post) (cd : gCv M n ci) (lk : Cond.methodLink own idx M.1 ∈ wG) (hs : sh a = (ci, k)) (hn : As.length = n) (hst : st0 = As.reverse ++ .ref a :: st) (hr : (st.map fun v => v.category).sum ≤ 8) (hf : gFit X d mc ms cells slots) (hd : decode cc pc = .ok (.invokevirtual idx, 3)) (kk : ∀ v sh' rf' mem', post v sh' rf' mem' → gG X sh' rf' mem' (cells + mc) (slots + ms) (pc + 3) lv (v.toList ++ st)) : gG X sh rf mem cells slots pc lv st0 := by
  obtain ⟨p, l, e, R, s, m, args, below, meth, c, nL, D, ac, A, Q⟩ := X
  obtain ⟨⟨hx, hb, hml, hown, hts⟩, hK, hA, hN, hO⟩ := hC
  obtain ⟨⟨c1, c2, c3, c4, c5, c6⟩, c7, c8, ⟨T, N, c9⟩, c10, c11⟩ := cd
  subst hst
  intro H locs ls hw hS hl
  have hw' := hw
  obtain ⟨L, hL, hP, hD⟩ := hw
  obtain ⟨q0, hq⟩ := gW_get (D := D) (A := A) (H := H) (rf := rf) (mem := mem) (ac := ac) hL (a := a) (by rw [hs]; exact c10)
  rw [gE_o hs c11] at hq
  have cb : CallB R s args own idx M.1 M.2.1 M.2.2.1 M.2.2.2 (.code M.1 M.2.1 M.2.2.1 M.2.2.2 :: wG) (gRo d mc ms) mc ms n := callB_of n hts (wG_in (c := .code M.1 M.2.1 M.2.2.1 M.2.2.2) c1) rfl rfl rfl (hts _ c2) (hts _ lk) ⟨c3, c4, c5⟩ ⟨hf.1, by have := hf.2.1; show _ + 40 * d ≤ R.locals; have h9 : 40 + 40 * d ≤ R.locals := this; omega⟩
  refine g_run (va_runV (As := As) (rest := st) (C := M.1.cls) ⟨hx, hb, hml, hown, hts⟩ (hM H.size) ⟨cb, hts _ c7, hts _ c8⟩ ⟨gPre_blind, va_recv hK hP c9 hq, fun U hU hW => ⟨rfl, by rw [hU], va_K.moved hW.alike hK, gNw_warm hW hN, hO.moved hW.alike, by rw [hU]; exact hw'.weaken (fun _ _ _ => trivial)⟩⟩ rfl hn hl.1 rfl (lv_room hr) hd ⟨hf.2.2.1, hf.2.2.2⟩) hS (fun q hq => ?_) (fun v sh' rf' mem' H1 locs1 hp hw1 hS1 => kk v sh' rf' mem' hp H1 locs1 ls hw1 hS1 hl)
  rcases hq with h | h
  · obtain ⟨j, hj⟩ := gW_get (D := D) (A := A) (H := H) (rf := rf) (mem := mem) (ac := ac) hL h
    exact hD.2 j _ hj
  · exact hA q (Nat.le_trans hS.1 h)
theorem g_callS (hC : gC X cc own) (hM : gMet (gl X) (gD X) (gac X) M d As mc ms sh rf mem post) (cd : gCs M n) (lk : Cond.methodLink own idx M.1 ∈ wG) (hn : As.length = n) (hst : st0 = As.reverse ++ st) (hr : (st.map fun v => v.category).sum ≤ 8) (hf : gFit X d mc ms cells slots) (hd : decode cc pc = .ok (.invokestatic idx, 3)) (kk : ∀ v sh' rf' mem', post v sh' rf' mem' → gG X sh' rf' mem' (cells + mc) (slots + ms) (pc + 3) lv (v.toList ++ st)) : gG X sh rf mem cells slots pc lv st0 := by
  obtain ⟨p, l, e, R, s, m, args, below, meth, c, nL, D, ac, A, Q⟩ := X
  obtain ⟨⟨hx, hb, hml, hown, hts⟩, hK, hA, hN, hO⟩ := hC
  obtain ⟨⟨c1, c2, c3, c4, c5, c6⟩, c7⟩ := cd
  subst hst
  intro H locs ls hw hS hl
  have hw' := hw
  obtain ⟨L, hL, hP, hD⟩ := hw
  have cb : CallB R s args own idx M.1 M.2.1 M.2.2.1 M.2.2.2 (.code M.1 M.2.1 M.2.2.1 M.2.2.2 :: wG) (gRo d mc ms) mc ms n := callB_of n hts (wG_in (c := .code M.1 M.2.1 M.2.2.1 M.2.2.2) c1) rfl rfl rfl (hts _ c2) (hts _ lk) ⟨c3, c4, c5⟩ ⟨hf.1, by have := hf.2.1; show _ + 40 * d ≤ R.locals; have h9 : 40 + 40 * d ≤ R.locals := this; omega⟩
  refine g_run (va_runS (As := As) (rest := st) ⟨hx, hb, hml, hown, hts⟩ (hM H.size) ⟨cb, hts _ c7⟩ ⟨gPre_blind, fun U hU hW => ⟨rfl, by rw [hU], va_K.moved hW.alike hK, gNw_warm hW hN, hO.moved hW.alike, by rw [hU]; exact hw'.weaken (fun _ _ _ => trivial)⟩⟩ rfl hn hl.1 rfl (lv_room hr) hd ⟨hf.2.2.1, hf.2.2.2⟩) hS (fun q hq => ?_) (fun v sh' rf' mem' H1 locs1 hp hw1 hS1 => kk v sh' rf' mem' hp H1 locs1 ls hw1 hS1 hl)
  rcases hq with h | h
  · obtain ⟨j, hj⟩ := gW_get (D := D) (A := A) (H := H) (rf := rf) (mem := mem) (ac := ac) hL h
    exact hD.2 j _ hj
  · exact hA q (Nat.le_trans hS.1 h)
theorem g_callI (hC : gC X cc own) {a : Nat} (hM : gMet (gl X) (gD X) (gac X) M d (.ref a :: As) mc ms sh rf mem post) (cd : gCi M n) (lk : Cond.methodLink own idx M.1 ∈ wG) (hn : As.length = n) (hst : st0 = As.reverse ++ .ref a :: st) (hr : (st.map fun v => v.category).sum ≤ 8) (hf : gFit X d mc ms cells slots) (hd : decode cc pc = .ok (.invokespecial idx, 3)) (kk : ∀ v sh' rf' mem', post v sh' rf' mem' → gG X sh' rf' mem' (cells + mc) (slots + ms) (pc + 3) lv (v.toList ++ st)) : gG X sh rf mem cells slots pc lv st0 := by
  obtain ⟨p, l, e, R, s, m, args, below, meth, c, nL, D, ac, A, Q⟩ := X
  obtain ⟨⟨hx, hb, hml, hown, hts⟩, hK, hA, hN, hO⟩ := hC
  obtain ⟨y, bs, mL, rt⟩ := M
  obtain ⟨⟨c1, c2, c3, c4, c5, c6⟩, c7, c8, c9⟩ := cd
  dsimp only at c9
  subst c9
  subst hst
  intro H locs ls hw hS hl
  have hw' := hw
  obtain ⟨L, hL, hP, hD⟩ := hw
  have cb : CallB R s args own idx y bs mL none (.code y bs mL none :: wG) (gRo d mc ms) mc ms n := callB_of n hts (wG_in (c := .code y bs mL none) c1) rfl rfl rfl (hts _ c2) (hts _ lk) ⟨c3, c4, c5⟩ ⟨hf.1, by have := hf.2.1; show _ + 40 * d ≤ R.locals; have h9 : 40 + 40 * d ≤ R.locals := this; have h8 : mL ≤ 21 := c6; omega⟩
  refine g_run (va_runI (As := As) (rest := st) ⟨hx, hb, hml, hown, hts⟩ (hM H.size) ⟨cb, c7, hts _ c8⟩ ⟨gPre_blind, fun U hU hW => ⟨rfl, by rw [hU], va_K.moved hW.alike hK, gNw_warm hW hN, hO.moved hW.alike, by rw [hU]; exact hw'.weaken (fun _ _ _ => trivial)⟩⟩ rfl hn hl.1 rfl (lv_room hr) hd ⟨hf.2.2.1, hf.2.2.2⟩) hS (fun q hq => ?_) (fun v sh' rf' mem' H1 locs1 hp hw1 hS1 => kk v sh' rf' mem' hp H1 locs1 ls hw1 hS1 hl)
  rcases hq with h | h
  · obtain ⟨j, hj⟩ := gW_get (D := D) (A := A) (H := H) (rf := rf) (mem := mem) (ac := ac) hL h
    exact hD.2 j _ hj
  · exact hA q (Nat.le_trans hS.1 h)
end GR6
