set_option maxHeartbeats 4000000 in
set_option maxRecDepth 100000 in
theorem kX9_octet (lc : Launch) (D : va_G) (ac : Nat → ClassId) {sh : Nat → Nat × Nat} {rf : Nat → Nat → Option Nat} {mem : Nat → Nat → Int} (G : Nat → Prop) (x : Nat) (A la l0 l1 l2 sa ra : Nat → Nat) (rp ex ar : List Int) (ms : List (Option MemT)) (ss : List (Option SetT)) (ch : Lns) (ds : Dfs) (lk : Nat) (g y z : Int) (i : Int) (hW : WXa G sh rf mem x A la l0 l1 l2 sa ra rp ms ss ch ds lk ex ar g y z) (hp : 0 ≤ i ∧ i < ex.length) (h_i : inR i) : gMet lc D ac mX9_octet 6 [.ref x, .int (iI i)] 0 0 sh rf mem (pP sh rf mem (fun r => r = sb (ex.getD i.toNat 0))) := by
  refine gMet.mk (by decide) (by intro v hv; simp at hv; (try rcases hv with rfl | rfl) <;> rfl) (Nat.le_of_ble_eq_true rfl) (fun X hC hI => ?_)
  show gG X sh rf mem 0 0 0 [some (.ref x), some (.int (iI i))] []
  have hW9 := hW
  obtain ⟨⟨ho, r0, r1, r2, r3, r4, r5, r6⟩, ⟨hL, hLv⟩, hR, ⟨hCt, hCo, hCi, hCv⟩, ⟨hMo, hMv, hMl, hMk⟩, ⟨hEo, hEv⟩, ⟨hAo, hAv⟩, ⟨hSo, hS0, hS1, hS2, hSg, hSh, hSy⟩, hD, hG⟩ := hW
  have hLo := hL.1
  have hRo := hR.1
  have hTo := hCt.1
  have hMo1 := hMo.1
  have hEo1 := hEo.1
  have hAo1 := hAo.1
  have sl := sb_le (ex.getD i.toNat 0)
  refine g_aload_n hC dX9_octet_0 rfl ?_
  refine g_getR hC fdX9_40 (by assumption) (by assumption) dX9_octet_1 ?_
  refine g_iload_n hC dX9_octet_4 rfl ?_
  refine g_VP hC (kX5_has (gl X) (gD X) (gac X) (A 15) (A 16) ex i hEo hEv h_i) cvX5_has lkX9_191 (by assumption) rfl rfl (Nat.le_of_ble_eq_true rfl) (hI.fit (Nat.le_of_ble_eq_true rfl) (Nat.le_of_ble_eq_true rfl) (Nat.le_of_ble_eq_true rfl)) dX9_octet_5 (fun x5 hx5 => ?_)
  refine g_if_ne (tgt := 19) hC dX9_octet_8 (by decide) ⟨by omega, by omega⟩ (fun h8 => ?_) (fun h8 => ?_)
  · refine g_aload_n hC dX9_octet_19 rfl ?_
    refine g_getR hC fdX9_40 (by assumption) (by assumption) dX9_octet_20 ?_
    refine g_iload_n hC dX9_octet_23 rfl ?_
    refine g_VP hC (kX5_signedAt (gl X) (gD X) (gac X) (A 15) (A 16) ex i hEo hEv h_i) cvX5_signedAt lkX9_197 (by assumption) rfl rfl (Nat.le_of_ble_eq_true rfl) (hI.fit (Nat.le_of_ble_eq_true rfl) (Nat.le_of_ble_eq_true rfl) (Nat.le_of_ble_eq_true rfl)) dX9_octet_24 (fun x24 hx24 => ?_)
    have e24 : x24 = sb (ex.getD i.toNat 0) := by
      rcases hx24 with ⟨-, -, w⟩ | ⟨w, -⟩
      · exact w
      · exact absurd hp w
    refine g_zret hC hI rfl (congrArg Value.int (iI_byte (by omega) (by omega))) dX9_octet_27 (Nat.le_of_ble_eq_true rfl) (Nat.le_of_ble_eq_true rfl) ⟨rfl, rfl, rfl, _, rfl, ?_⟩
    exact e24
  · exfalso; omega
/-- octet outside: it throws, and nothing that was there has changed -/
def oTh : Array Value → State → Outcome → State → Prop := fun _ st o t => ∃ (q : Addr) (ce : Cell), o = .threw q ∧ st.WarmedH t.vm ∧ st.sameButNew ({ t with vm := st.vm } : State) [] 1 6 ∧ st.heap.size ≤ q ∧ t.heap[q]? = some ce ∧ ce.vm = .none ∧ st.vm.findClass aioN = some ce.cls
def oPr (D : va_G) (ac : Nat → ClassId) (sh : Nat → Nat × Nat) (rf : Nat → Nat → Option Nat) (mem : Nat → Nat → Int) (U : State) : Prop := va_K D vwCl (gtys ac) U ∧ gW D ac (fun _ => True) sh rf mem U.heap ∧ thK (fun _ => False) U U.heap
set_option maxHeartbeats 4000000 in
set_option maxRecDepth 100000 in
theorem tX9_octet (l : Launch) (htr : l.stackTraces = false) (D : va_G) (ac : Nat → ClassId) {sh : Nat → Nat × Nat} {rf : Nat → Nat → Option Nat} {mem : Nat → Nat → Int} (G : Nat → Prop) (x : Nat) (A la l0 l1 l2 sa ra : Nat → Nat) (rp ex ar : List Int) (ms : List (Option MemT)) (ss : List (Option SetT)) (ch : Lns) (ds : Dfs) (lk : Nat) (g y z : Int) {i : Int} (hW : WXa G sh rf mem x A la l0 l1 l2 sa ra rp ms ss ch ds lk ex ar g y z) (h_i : inR i) (hn : ¬ (0 ≤ i ∧ i < ex.length)) : MetFree l mX9_octet.1 (headSpec (.code mX9_octet.1 mX9_octet.2.1 mX9_octet.2.2.1 mX9_octet.2.2.2 :: wG) (gRo 7 1 6)) (va_Pc [.ref x, .int (iI i)] (oPr D ac sh rf mem)) (fun _ _ _ _ _ => True) oTh := by
  refine MetFree.of_bodyS (code := mX9_octet.2.1) (maxLocals := mX9_octet.2.2.1) (ret := mX9_octet.2.2.2) (by decide) ?_ ?_
  · intro args s m h hn'
    obtain ⟨meth, c, h1, h2, h3, h4, h5, h6, -, -⟩ := Cond.code_spec hn' (atoms_spec (ws := (.code mX9_octet.1 mX9_octet.2.1 mX9_octet.2.2.1 mX9_octet.2.2.2 :: wG)) h _ List.mem_cons_self)
    exact ⟨meth, c, h1, h2, h3, h4, h5, h6⟩
  intro p e s m args below meth c s₁ B hml hP _
  obtain ⟨rfl, hK, hWw, hTh⟩ := hP
  have hts0 := atoms_spec (ws := (.code mX9_octet.1 mX9_octet.2.1 mX9_octet.2.2.1 mX9_octet.2.2.2 :: wG)) B.pre
  have hts := fun (w : Cond) (hw : w ∈ wG) => hts0 w (List.mem_cons_of_mem _ hw)
  have hown : s.vm.findClass RX9 = some m.cls := findClass_of_methodNamed B.named
  have hx := B.exec
  have hb : c.code = cX9_octet := B.bytes
  have hlocks : meth.locks = false := B.notSynchronized
  have hh0 : s₁.heap = s.heap := by rw [B.state]; rfl
  have X0 : Stand p l e (gRo 7 1 6) s m [Value.ref x, Value.int (iI i)].toArray below meth c s₁ [] 0 0 := Stand.of_body B
  have hemp : ∀ x ∈ c.exceptionTable.toList, covers x 18 = false := by
    obtain ⟨meth', c', h1, h2, -, -, -, -, h7, -⟩ := Cond.code_spec B.named (hts0 _ List.mem_cons_self)
    cases X0.method.symm.trans h1
    cases X0.code.symm.trans h2
    intro x hx
    have : c.exceptionTable = #[] := by simpa using h7
    rw [this] at hx
    cases hx
  have hl := lv_entry [Value.ref x, Value.int (iI i)] (n := 2) (Nat.le_of_ble_eq_true rfl)
  have hW9 := hW
  obtain ⟨⟨ho, -, -, -, -, r4, -⟩, -, -, -, -, ⟨hEo, hEv⟩, -⟩ := hW
  have hEo9 := hEo
  obtain ⟨eo, -⟩ := hEo
  have hww := hWw
  obtain ⟨L, hL, hP, hD⟩ := hWw
  obtain ⟨C, T, N, tf, hc, hin, hkN, hlk, hC1, hfin, hfl, hci, hty, hnm, htk⟩ := fdX9_40
  obtain ⟨q0, hq⟩ := gW_get (D := D) (A := fun _ => True) (H := s.heap) (rf := rf) (mem := mem) (ac := ac) hL (a := x) (by rw [ho]; decide)
  rw [gE_o ho hci] at hq
  obtain ⟨q5, hq5⟩ := gW_get (D := D) (A := fun _ => True) (H := s.heap) (rf := rf) (mem := mem) (ac := ac) hL (a := A 15) (by rw [eo]; decide)
  rw [gE_o eo (by decide)] at hq5
  have K : W p l e (gRo 7 1 6) s m [Value.ref x, Value.int (iI i)].toArray below meth c s.heap [] 0 0 (fun t => ∃ o, t.status = .running ∧ Ended t below o ∧ oTh [Value.ref x, Value.int (iI i)].toArray s o t) (entryFrame m [Value.ref x, Value.int (iI i)].toArray 2) := by
    rw [lg_entry_eq]
    generalize (lg_sl [Value.ref x, Value.int (iI i)] ++ List.replicate (2 - (lg_sl [Value.ref x, Value.int (iI i)]).length) Slot.unset).toArray = ls at hl ⊢
    have hl : lv_has ls 2 [(0, .ref x), (1, .int (iI i))] := hl
    refine lv_aload_n hx hb dX9_octet_0 rfl (lv_at hl 0 rfl) ?_
    refine va_get (ci := 9) hx hb hts hin hown hK hP q0 hq hc 4 hkN (hts _ hlk) (fun x hx1 => by rw [hC1] at hx1; exact hx1) (gfs_get _ _ _ 0 4 true hfl) dX9_octet_1 ?_
    rw [show (bif true then va_rf (rf x (0 + 4)) else Value.int (iI (mem x (0 + 4)))) = .ref (A 15) by show va_rf (rf x 4) = _; rw [r4]; rfl]
    refine lv_iload_n hx hb dX9_octet_4 rfl (lv_at hl 1 rfl) ?_
    obtain ⟨⟨c1, c2, c3, c4, c5, c6⟩, c7, c8, ⟨T5, N5, c9⟩, c10, c11⟩ := cvX5_has
    have cb : CallB (gRo 7 1 6) s [Value.ref x, Value.int (iI i)].toArray RX9 191 mX5_has.1 mX5_has.2.1 mX5_has.2.2.1 mX5_has.2.2.2 (.code mX5_has.1 mX5_has.2.1 mX5_has.2.2.1 mX5_has.2.2.2 :: wG) (gRo 0 0 0) 0 0 1 := callB_of 1 hts (wG_in (c := .code mX5_has.1 mX5_has.2.1 mX5_has.2.2.1 mX5_has.2.2.2) c1) rfl rfl rfl (hts _ c2) (hts _ lkX9_191) ⟨c3, c4, c5⟩ ⟨(Nat.le_of_ble_eq_true rfl), (Nat.le_of_ble_eq_true rfl)⟩
    intro T hT XX
    obtain ⟨v, st₀, t, T', L', h0, X', hL', e1, e2, ⟨hv, hh⟩, st⟩ := (va_runV (As := [.int (iI i)]) (rest := []) (C := mX5_has.1.cls) (g := F0 m 5 ls [.int (iI i), .ref (A 15)]) ⟨hx, hb, hml, hown, hts⟩ (hX5_has l D ac hEo9 hEv h_i hn) ⟨cb, hts _ c7, hts _ c8⟩ ⟨fun a U g mk h => ⟨h.1, va_K.moved (u := U) (U := U.calling g mk a) (Vm.Alike.refl U.vm) h.2.1, h.2.2⟩, va_recv hK hP c9 hq5, fun U hU hW => ⟨rfl, va_K.moved hW.alike hK, by rw [hU]; exact hww⟩⟩ rfl rfl hl.1 rfl (lv_room (Nat.le_of_ble_eq_true rfl)) dX9_octet_5 ⟨(Nat.le_of_ble_eq_true rfl), (Nat.le_of_ble_eq_true rfl)⟩) T hT XX
    have hL0 : L' = [] := List.eq_nil_iff_forall_not_mem.mpr (fun q hq => hL' q hq)
    subst hL0
    cases hv
    have hT' : T'.heap = s.heap := by rw [e1, hh, h0]
    have K8 : W p l e (gRo 7 1 6) s m [Value.ref x, Value.int (iI i)].toArray below meth c s.heap [] 0 0 (fun t => ∃ o, t.status = .running ∧ Ended t below o ∧ oTh [Value.ref x, Value.int (iI i)].toArray s o t) (F0 m 8 ls [.int (iI 0)]) := by
      refine lv_if_ne (tgt := 19) hx hb dX9_octet_8 (by decide) (fun q => absurd rfl q) (fun q => ?_)
      refine W.newc (g := F0 m 11 ls []) hx hb hown (hts _ cl9_194) (hts _ aio_in) (hts _ aio_ok) rfl dX9_octet_11 (Nat.le_of_ble_eq_true rfl) (Nat.le_of_ble_eq_true rfl) (fun cC kC f1 f2 f3 f4 => ?_)
      refine lv_dup hx hb dX9_octet_14 rfl ?_
      intro T2 hT2 X2
      have htr' : e.platform.stackTraces = false := by rw [X2.admits.platform]; exact htr
      have hcell : T2.heap[s.heap.size]? = some (freshCell cC kC) := by rw [hT2]; exact Array.getElem?_push_size
      obtain ⟨U, u1, u2, u3, u4, u5, ce, u6, u7⟩ := X2.ctorThrow0 hx htr' (own := RX9) (cls := aioN) (names := aioL) (ic := 196) hown (by decide +kernel) (by decide +kernel) (hTh.use hts) (fun x hx => by cases hx) f1 f2 hcell (Nat.le_refl _) (g := F0 m 15 ls [.ref s.heap.size, .ref s.heap.size]) rfl (by rw [hml]; exact hl.1) rfl rfl (rest := []) rfl (by rw [hb]; exact dX9_octet_15) (by rw [hb]; exact dX9_octet_18) hemp (by decide) (Nat.le_of_ble_eq_true rfl) hlocks
      exact ⟨U, u1, .threw _, u2, u3, _, ce, rfl, u4, u5, Nat.le_refl _, u6, u7.vm, u7.cls⟩
    obtain ⟨t2, a1, b1⟩ := K8 T' hT' X'
    exact ⟨t2, st t2 a1, b1⟩
  obtain ⟨t, a1, o, b1, b2, b3⟩ := K s₁ hh0 X0
  exact ⟨t, o, a1, b1, b2, b3⟩
