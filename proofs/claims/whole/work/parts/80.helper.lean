/-! the law's helper -/
def hhL : List (Nat × Nat × Nat × Nat) := [(0, 9, 12, 13)]
def mL_octet : gMd := (yL_octet, cL_octet, 4, some .int)
theorem cwL_octet : Cond.codeWith yL_octet cL_octet 4 (some .int) hhL ∈ wG := wG_tab 742 (by decide +kernel) (by decide +kernel)
theorem clL_13 : Cond.classLink RL 13 aioN ∈ wG := wG_tab 743 (by decide +kernel) (by decide +kernel)
theorem lkL_98 : Cond.methodLink RL 98 yL_octet ∈ wG := wG_tab 740 (by decide +kernel) (by decide +kernel)
theorem stL_octet : Cond.static yL_octet ∈ wG := wG_tab 741 (by decide +kernel) (by decide +kernel)
theorem inL : Cond.initialized RL ∈ wG := wG_tab 0 (by decide +kernel) (by decide +kernel)
def gTh (X : gX) : Prop := match X with
  | (_, l, _, _, s, _, _, _, _, c, _, _, _, A, _) => l.stackTraces = false ∧ thK A s s.heap ∧ c.exceptionTable.toList = tableOf hhL
set_option maxHeartbeats 4000000 in
set_option maxRecDepth 100000 in
theorem g_throwOct {X : gX} (hC : gC X cL_octet RL) (hTh : gTh X) {sh : Nat → Nat × Nat} {rf : Nat → Nat → Option Nat} {mem : Nat → Nat → Int} {cells slots : Nat} {lv : List (Option Value)} {G : Nat → Prop} {x : Nat} {A la l0 l1 l2 sa ra : Nat → Nat} {rp ex ar : List Int} {ms : List (Option MemT)} {ss : List (Option SetT)} {ch : Lns} {ds : Dfs} {lk : Nat} {g y z : Int} {i : Int} {o : Nat} (hW : WXa G sh rf mem x A la l0 l1 l2 sa ra rp ms ss ch ds lk ex ar g y z) (h_i : inR i) (hn : ¬ (0 ≤ i ∧ i < ex.length)) (hf : gFit X 7 1 6 cells slots) (kk : ∀ q, gG X sh rf mem (cells + 1) (slots + 6) 12 lv [.ref q]) : gG X sh rf mem cells slots 4 lv [.int (iI i), .ref x, .int (iI 0), .ref o] := by
  obtain ⟨p, l, e, R, s, m, args, below, meth, c, nL, D, ac, A', Q⟩ := X
  obtain ⟨⟨hx, hb, hml, hown, hts⟩, hK, hA, hN, hO⟩ := hC
  obtain ⟨htr, hth, htab⟩ := hTh
  obtain ⟨hf1, hf2, hf3, hf4⟩ := hf
  intro H locs ls hw hS hl T hT XX
  have hw' := hw
  obtain ⟨L, hL, hP, hD⟩ := hw
  have ho := hW.1.1
  obtain ⟨⟨c1, c2, c3, c4, c5, c6⟩, c7, c8, ⟨T9, N9, c9⟩, c10, c11⟩ := cvX9_octet
  obtain ⟨q0, hq⟩ := gW_get (D := D) (A := A') (H := H) (rf := rf) (mem := mem) (ac := ac) hL (a := x) (by rw [ho]; exact c10)
  rw [gE_o ho c11] at hq
  obtain ⟨cellB, hcB, hobj, hcls⟩ := va_recv hK hP c9 hq
  obtain ⟨mk, methM, hnamed, hmethM, hstM, habM⟩ := Cond.instanceMethod_spec (hts _ c7)
  obtain ⟨methM', cM, hmethM', hcM, -, hlM, -, -, -, hsigM⟩ := Cond.code_spec hnamed (hts _ c1)
  cases hmethM.symm.trans hmethM'
  obtain ⟨c2', r2, m2, q1, q2, q3, q4, kP, hkP, hkPi⟩ := Cond.selects_spec (hts _ c8)
  cases hcls.symm.trans q1
  cases (State.methodFound?_of_named hnamed ⟨c3, c4⟩).symm.trans q2
  cases hnamed.symm.trans q3
  have hselP : selectMethod e.platform s.vm cellB.cls mk = .method mk := by rw [Launch.admits_selectMethod XX.admits]; exact q4
  have hpl : e.platform.magicAccessors = ({} : Platform).magicAccessors := by rw [XX.admits.platform]
  obtain ⟨vm₁, X₁, hstep₁⟩ := XX.invokevirtual hx hown (hts _ lkL_7) hnamed hmethM hstM hkP hkPi ⟨c3, c4⟩ (a := x) (cell := cellB) (by rw [hT]; exact hcB)
    (fun z h => by rw [h] at hobj; cases hobj) hselP hmethM habM hkP hkPi (g := F0 m 4 ls [.int (iI i), .ref x, .int (iI 0), .ref o]) rfl (argsL := [.int (iI i)]) (rest := [.int (iI 0), .ref o]) (by
      have h2 := c5
      have h3 : parseMethodDescriptor mX9_octet.1.desc = some methM.sig := hsigM
      rw [h3] at h2
      exact (Option.some.inj h2).symm) rfl (by rw [hb]; exact dL_octet_4)
  have hWd : ∀ w ∈ (.code mX9_octet.1 mX9_octet.2.1 mX9_octet.2.2.1 mX9_octet.2.2.2 :: wG), w.before [Value.ref x, Value.int (iI i)].toArray (T.setVm vm₁) = true := fun w hw => by
    rcases List.mem_cons.mp hw with rfl | hw
    · exact word_at X₁.warmed (wG_good _ c1) (hts _ c1)
    · exact word_at X₁.warmed (wG_good _ hw) (hts _ hw)
  have hn₁ : (T.setVm vm₁).methodNamed? mX9_octet.1 = some mk := X₁.named hnamed
  obtain ⟨methY, cY, hmY, hcY, -, hlY, -, -, -, -⟩ := Cond.code_spec hn₁ (hWd _ List.mem_cons_self)
  obtain ⟨kY, hkY, -⟩ := className_of_methodNamed hn₁
  have hini : (Cond.initialized mX9_octet.1.cls).before [Value.ref x, Value.int (iI i)].toArray (T.setVm vm₁) = true := word_at X₁.warmed (wG_good _ c2) (hts _ c2)
  have hinitY : kY.init = .initialized := Cond.initialized_spec (findClass_of_methodNamed hn₁) hkY hini
  have hAt : At (T.setVm vm₁) m c below := X₁.here
  obtain ⟨gF, eg⟩ : ∃ gF : JFrame, gF = { F0 m 4 ls [.int (iI i), .ref x, .int (iI 0), .ref o] with stack := [.int (iI 0), .ref o] } := ⟨_, rfl⟩
  have gm : gF.method = m := by rw [eg]
  have gs : gF.locals.size = c.maxLocals := by rw [eg, hml]; exact hl.1
  have gd : decode c.code gF.pc = .ok (.invokevirtual 7, 3) := by rw [eg, hb]; exact dL_octet_4
  have gw : 2 * gF.monitorRoom + (gF.stack.map fun v => v.category).sum = 2 := by rw [eg]; rfl
  have hAtg : At (T.setVm vm₁) gF.method c below := by rw [gm]; exact hAt
  have happ : (headSpec (.code mX9_octet.1 mX9_octet.2.1 mX9_octet.2.2.1 mX9_octet.2.2.2 :: wG) (gRo 7 1 6)).appliesLoose mX9_octet.1 e.platform ((T.setVm vm₁).calling gF mk [Value.ref x, Value.int (iI i)].toArray) = true :=
    Spec.appliesLoose_calling (g := gF) hAtg gd hn₁ hkY hinitY
      (X₁.room_calling (g := gF) (R' := gRo 7 1 6) gs hmY hcY hf1 (by rw [gw, hlY]; show 2 + (2 + 11) + 280 ≤ R.locals; have h9 : 40 + 40 * 7 ≤ R.locals := hf2; omega) hf3 hf4) (atoms_intro hWd)
  obtain ⟨mid, hmid⟩ := hAtg.above
  have hfr : ((T.setVm vm₁).setTop gF).frames = (.java gF :: mid) ++ below := by rw [State.frames_setTop' gF hAtg.top, hmid]; rfl
  have hH1 : ∀ a : Nat, a < s.heap.size → ¬ A' a → H[a]? = s.heap[a]? := fun a h1 h2 => hS.2.1 a h1 h2
  have hth1 : thK (fun _ => False) (T.setVm vm₁) H := ((hth.kept hH1).moved X₁.warmed.alike).narrow (fun _ z => z.elim)
  obtain ⟨o', s₂, hsteps, -, hend, hq9⟩ := Steps.callFree (tX9_octet l htr D ac G x A la l0 l1 l2 sa ra rp ex ar ms ss ch ds lk g y z hW h_i hn) p X₁.admits X₁.cas X₁.clock (s := (T.setVm vm₁).setTop gF) (m := mk) (args := [Value.ref x, Value.int (iI i)].toArray) (acts := []) hfr happ ⟨rfl, va_K.moved X₁.warmed.alike hK, by show gW D ac _ sh rf mem T.heap; rw [hT]; exact hw'.weaken (fun _ _ _ => trivial), by show thK _ (T.setVm vm₁) T.heap; rw [hT]; exact hth1⟩ trivial
  obtain ⟨q, ce, rfl, hWm, hsame, hqs, hce, hcev, hcecls⟩ := hq9
  rw [State.frames_setTop' gF hAtg.top, X₁.tail] at hend
  obtain ⟨T', X', hWT, hsT, ht⟩ := X₁.outOfThrown (g := gF) gm hend hWm hsame
  have hT'h : T'.heap = s₂.heap := by rw [ht]; exact (Stand.throwing_heap T' gF q).symm
  have hold : ∀ a : Nat, a < H.size → T'.heap[a]? = H[a]? := fun a ha => by
    have h1 : H[a]? = some H[a] := Array.getElem?_eq_getElem ha
    have h2 := State.sameButNew.old_cell hsame (a := a) (c := H[a]) (by show T.heap[a]? = _; rw [hT]; exact h1)
    rw [hT'h, h1]
    exact h2
  have hsz : H.size ≤ T'.heap.size := by
    have := hsame.2.1
    rw [hT'h, ← hT]
    exact this
  have hw1 : gW D ac A' sh rf mem T'.heap := ⟨L, hL, hP.kept (fun k z hz => hold z.1 ((hP k z hz).lt)), hD⟩
  have hS1 : va_S A' s.heap T'.heap (locs ++ []) := ⟨Nat.le_trans hS.1 hsz, fun a h1 h2 => (hold a (Nat.lt_of_lt_of_le h1 hS.1)).trans (hS.2.1 a h1 h2), by rw [List.append_nil]; exact hS.2.2⟩
  obtain ⟨cc', hfcc, hcl⟩ := Cond.classLink_spec hown (hts _ clL_13) e.platform hpl
  obtain ⟨hg₁, hwarm₁, hready₁⟩ := State.classEntry (e := e) X'.warmed hcl
  obtain ⟨vm2, evm2⟩ : ∃ v, v = T'.vm.noted m.cls 13 (.cls cc') := ⟨_, rfl⟩
  have hszv : vm2.classes.size ≤ T'.vm.classes.size := by rw [evm2]; no_record
  rw [← evm2] at hg₁ hwarm₁ hready₁
  have hal : s.vm.Alike vm2 := hwarm₁.alike
  have hcc : ce.cls = cc' := by
    have h1 : vm₁.findClass aioN = some ce.cls := hcecls
    have h2 : vm₁.findClass aioN = s.vm.findClass aioN := X₁.warmed.alike.findClass _ _
    rw [h2, hfcc] at h1
    exact (Option.some.inj h1).symm
  obtain ⟨ca, ta, w1, w2, w3⟩ := Cond.castable_spec hth.2.1
  cases w1.symm.trans hfcc
  cases w2.symm.trans hfcc
  obtain ⟨kA, hkA⟩ := Vm.classAt_of_findClass (show vm2.findClass aioN = some cc' by rw [hal.findClass]; exact hfcc)
  obtain ⟨t, a1, b1⟩ := kk q T'.heap (locs ++ []) ls hw1 hS1 hl (T'.setVm vm2) rfl (X'.noted hwarm₁)
  refine ⟨t, ?_, b1⟩
  refine hstep₁ _ (fun acts => ?_)
  rw [doInvoke_state]
  rw [← eg]
  refine hsteps.trans ?_
  rw [ht]
  refine cold_caught (s := T') (a := q) (g := gF) (c := c) (by rw [gm]; exact X'.here) (pc := 12) (vm' := vm2) ?_ (by rw [eg]; exact a1)
  intro Q1 E1 d1 acts1
  have hm2 : ((T'.setTop gF).pushFrame (.throwing q)).vm.method? gF.method = some meth := by rw [Stand.throwing_vm, gm]; exact X'.method'
  rw [W.findHandler_eq hm2 X'.code, htab]
  refine cold_go (x := ⟨0, 9, 12, 13⟩) (t := []) (c := cc') (cell := ce) (by rw [eg]; rfl) (by decide) (by rw [Stand.throwing_vm, gm]; exact hg₁) (by rw [Stand.throwing_vm]; exact hszv) (by rw [Stand.throwing_heap, hT'h]; exact hce) (fun k h => by rw [hcev] at h; cases h) ⟨kA, by rw [hcc]; exact hkA⟩ ⟨kA, hkA⟩ (by rw [hcc, hal.assignable]; exact w3)
