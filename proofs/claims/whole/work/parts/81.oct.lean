def oPo (sh : Nat → Nat × Nat) (rf : Nat → Nat → Option Nat) (mem : Nat → Nat → Int) (ex : List Int) (o : Nat) (i : Int) : gPo := fun v sh1 rf1 mem1 => sh1 = sh ∧ rf1 = rf ∧ ((¬ (0 ≤ i ∧ i < ex.length) ∧ v = some (.int (iI 1)) ∧ mem1 = mem) ∨ ((0 ≤ i ∧ i < ex.length) ∧ v = some (.int (iI 0)) ∧ mem1 = gup mem o 0 (sb (ex.getD i.toNat 0))))
def oPc (D : va_G) (ac : Nat → ClassId) (sh : Nat → Nat × Nat) (rf : Nat → Nat → Option Nat) (mem : Nat → Nat → Int) (sz : Nat) (U : State) : Prop := gPre D ac sh rf mem sz U ∧ thK (gA sh sz) U U.heap
set_option maxHeartbeats 4000000 in
set_option maxRecDepth 100000 in
theorem kL_octet (l : Launch) (htr : l.stackTraces = false) (D : va_G) (ac : Nat → ClassId) {sh : Nat → Nat × Nat} {rf : Nat → Nat → Option Nat} {mem : Nat → Nat → Int} {G : Nat → Prop} {x : Nat} {A la l0 l1 l2 sa ra : Nat → Nat} {rp ex ar : List Int} {ms : List (Option MemT)} {ss : List (Option SetT)} {ch : Lns} {ds : Dfs} {lk : Nat} {g y z : Int} {i : Int} {o : Nat} (so : sh o = (14, 1)) (hW : WXa G sh rf mem x A la l0 l1 l2 sa ra rp ms ss ch ds lk ex ar g y z) (h_i : inR i) (sz : Nat) : Met l yL_octet (.codeWith yL_octet cL_octet 4 (some .int) hhL :: wG) (gRo 8 1 6) (va_Pc [.ref x, .int (iI i), .ref o] (oPc D ac sh rf mem sz)) (gQ D ac (gA sh sz) (oPo sh rf mem ex o i)) 1 6 (gA sh sz) := by
  refine va_MetW (hh := hhL) (cc := cL_octet) (maxL := 4) (ret := some .int) (by decide) rfl ?_
  intro p e s m args below meth c s₁ B hml hv
  obtain ⟨rfl, ⟨hsz, hK, hN, hO, hWw⟩, hTh⟩ := hv
  have hts := atoms_spec (ws := (.codeWith yL_octet cL_octet 4 (some .int) hhL :: wG)) B.pre
  have hown : s.vm.findClass RL = some m.cls := findClass_of_methodNamed B.named
  have hin : meth.name = yL_octet.name := (name_of_methodNamed B.named B.method).1
  have hl := lv_entry ([.ref x, .int (iI i), .ref o] : List Value) (n := 4) (Nat.le_of_ble_eq_true rfl)
  rw [lg_entry_eq]
  generalize (lg_sl ([.ref x, .int (iI i), .ref o] : List Value) ++ List.replicate (4 - (lg_sl ([.ref x, .int (iI i), .ref o] : List Value)).length) Slot.unset).toArray = ls at hl ⊢
  have hl : lv_has ls 4 [(0, .ref x), (1, .int (iI i)), (2, .ref o)] := hl
  have hg : gL ls 4 [some (.ref x), some (.int (iI i)), some (.ref o), none] := by
    refine ⟨hl.1, hl.2.1, rfl, fun k v hk => ?_⟩
    match k, hk with
    | 0, hk => cases hk; exact ⟨lv_at hl 0 rfl, rfl⟩
    | 1, hk => cases hk; exact ⟨lv_at hl 1 rfl, rfl⟩
    | 2, hk => cases hk; exact ⟨lv_at hl 2 rfl, rfl⟩
    | 3, hk => cases hk
    | k + 4, hk => simp at hk
  have htab : c.exceptionTable.toList = tableOf hhL := by
    obtain ⟨m9, meth9, c9, h0, h1, h2, -, -, h5, -⟩ := Cond.codeWith_spec (hts _ List.mem_cons_self)
    have X0 : Stand p l e (gRo 8 1 6) s m ([.ref x, .int (iI i), .ref o] : List Value).toArray below meth c s₁ [] 0 0 := Stand.of_body B
    cases B.named.symm.trans h0
    cases X0.method.symm.trans h1
    cases X0.code.symm.trans h2
    rw [← h5, table_eq]
  obtain ⟨X, eX⟩ : ∃ X : gX, X = (p, l, e, gRo 8 1 6, s, m, ([.ref x, .int (iI i), .ref o] : List Value).toArray, below, meth, c, 4, D, ac, gA sh sz, MQ below (gQ D ac (gA sh sz) (oPo sh rf mem ex o i)) ([.ref x, .int (iI i), .ref o] : List Value).toArray s 1 6 (gA sh sz)) := ⟨_, rfl⟩
  have hC : gC X cL_octet RL := by
    rw [eX]
    exact ⟨⟨B.exec, B.bytes, hml, hown, fun w hw => hts w (List.mem_cons_of_mem _ hw)⟩, hK, fun q h => Or.inr (by rw [← hsz]; exact h), hN, hO⟩
  have hI : gIn X mL_octet 8 1 6 (oPo sh rf mem ex o i) := by
    rw [eX]
    exact ⟨rfl, B.returns, B.notSynchronized, rfl, hin⟩
  have hT2 : gTh X := by
    rw [eX]
    exact ⟨htr, hTh, htab⟩
  have hD9 : gD X = D := by rw [eX]; rfl
  have body : gG X sh rf mem 0 0 0 [some (.ref x), some (.int (iI i)), some (.ref o), none] [] := by
    have ho := hW.1.1
    refine g_aload_n hC dL_octet_0 rfl ?_
    refine g_iconst hC dL_octet_1 ?_
    refine g_aload_n hC dL_octet_2 rfl ?_
    refine g_iload_n hC dL_octet_3 rfl ?_
    by_cases hp : 0 ≤ i ∧ i < ex.length
    · refine g_VP hC (kX9_octet (gl X) (gD X) (gac X) G x A la l0 l1 l2 sa ra rp ex ar ms ss ch ds lk g y z i hW hp h_i) cvX9_octet lkL_7 ho rfl rfl (Nat.le_of_ble_eq_true rfl) (hI.fit (Nat.le_of_ble_eq_true rfl) (Nat.le_of_ble_eq_true rfl) (Nat.le_of_ble_eq_true rfl)) dL_octet_4 (fun x4 hx4 => ?_)
      have sl := sb_le (ex.getD i.toNat 0)
      rw [hx4]
      refine g_i2l hC ⟨by omega, by omega⟩ dL_octet_7 ?_
      refine g_last hC so (by decide) (by decide) (by decide) dL_octet_8 ?_
      refine g_goto (tgt := 15) hC dL_octet_9 (by decide) ?_
      refine g_iconst hC dL_octet_15 ?_
      exact g_iret hC hI rfl dL_octet_16 (Nat.le_of_ble_eq_true rfl) (Nat.le_of_ble_eq_true rfl) ⟨rfl, rfl, Or.inr ⟨hp, rfl, rfl⟩⟩
    · refine g_throwOct hC hT2 hW h_i hp (hI.fit (Nat.le_of_ble_eq_true rfl) (Nat.le_of_ble_eq_true rfl) (Nat.le_of_ble_eq_true rfl)) (fun q => ?_)
      refine g_astore_n hC 3 rfl dL_octet_12 (Nat.le_of_ble_eq_true rfl) ?_
      dsimp only [List.set]
      refine g_iconst hC dL_octet_13 ?_
      exact g_iret hC hI rfl dL_octet_14 (Nat.le_of_ble_eq_true rfl) (Nat.le_of_ble_eq_true rfl) ⟨rfl, rfl, Or.inl ⟨hp, rfl, rfl⟩⟩
  rw [eX] at body
  exact body s.heap [] ls (hWw.weaken (fun q h _ => Or.inl h)) va_S.rf hg
def gThL (X : gX) : Prop := match X with
  | (_, l, _, _, s, _, _, _, _, _, _, _, _, A, _) => l.stackTraces = false ∧ thK A s s.heap
set_option maxHeartbeats 4000000 in
set_option maxRecDepth 100000 in
theorem octC {X : gX} (hC : gC X cL_law RL) (hR : gRm X = room_1) (hTh : gThL X) : OctC X := by
  intro G sh rf mem x mm o A B rp ex ar ms ss ch ds lk g y z i cells slots lv hLS h_i hcs hsl kk
  obtain ⟨⟨la, l0, l1, l2, sa, ra, hW⟩, -, -, -, so, -⟩ := hLS
  obtain ⟨p, l, e, R, s, m, args, below, meth, c, nL, D, ac, A', Q⟩ := X
  obtain ⟨⟨hx, hb, hml, hown, hts⟩, hK, hA, hN, hO⟩ := hC
  obtain ⟨htr, hth⟩ := hTh
  have hR' : R = room_1 := hR
  subst hR'
  intro H locs ls hw hS hl
  have hw' := hw
  obtain ⟨L, hL, hP, hD⟩ := hw
  have hA2 : ∀ q, gA sh H.size q → A' q := fun q hq => by
    rcases hq with h | h
    · obtain ⟨j, hj⟩ := gW_get (D := D) (A := A') (H := H) (rf := rf) (mem := mem) (ac := ac) hL h
      exact hD.2 j _ hj
    · exact hA q (Nat.le_trans hS.1 h)
  have hrun : va_Run p l e room_1 s m args below meth c H locs cells slots 1 6 (F0 m 878 ls [.ref o, .int (iI i), .ref x]) [] (gQ D ac (gA sh H.size) (oPo sh rf mem ex o i) ([.ref x, .int (iI i), .ref o] : List Value).toArray) (gA sh H.size) := by
    intro T hT XX
    obtain ⟨mk, methM, cM, hnamed, hmethM, hcM, -, hlM, -, -, -, hsigM⟩ := Cond.codeWith_spec (hts _ cwL_octet)
    have hstatic : methM.isStatic = true := Cond.static_spec hnamed hmethM (hts _ stL_octet)
    obtain ⟨kP, hkP, -⟩ := className_of_methodNamed hnamed
    have hinitP : kP.init = .initialized := Cond.initialized_spec (findClass_of_methodNamed hnamed) hkP (hts _ inL)
    obtain ⟨vm₁, X₁, hstep₁⟩ := XX.invokestatic hx hown (hts _ lkL_98) hnamed hmethM hstatic hkP hinitP ⟨by decide, by decide⟩ (g := F0 m 878 ls [.ref o, .int (iI i), .ref x]) rfl (argsL := [.ref x, .int (iI i), .ref o]) (rest := []) (by
      have h2 : (parseMethodDescriptor yL_octet.desc).map (fun d => d.parameters.length) = some 3 := by decide +kernel
      rw [hsigM] at h2
      exact (Option.some.inj h2).symm) rfl (by rw [hb]; exact dL_law_878)
    have hKb : Back l room_1 p e below s args yL_octet 3 8 (PreOf room_1 1 6 (va_Pc [.ref x, .int (iI i), .ref o] (oPc D ac sh rf mem H.size))) (PostOf (gQ D ac (gA sh H.size) (oPo sh rf mem ex o i)) 1 6 (gA sh H.size)) :=
      va_backW (hh := hhL) (bytes := cL_octet) (maxL := 4) (ret := some .int) (kL_octet l htr D ac so hW h_i H.size) (fun a U gg mk h => ⟨h.1, (gPre_blind a U gg mk ⟨h.1, h.2.1⟩).2, h.2.2.moved (u := U) (U := U.calling gg mk a) (Vm.Alike.refl U.vm)⟩) rfl rfl (Nat.le_of_ble_eq_true rfl) (Nat.le_of_ble_eq_true rfl)
        (fun w hw a' U hU => by
          rcases List.mem_cons.mp hw with rfl | hw
          · exact word_at hU (wG_good _ cwL_octet) (hts _ cwL_octet)
          · exact word_at hU (wG_good _ hw) (hts _ hw)) List.mem_cons_self (fun a' U hU => word_at hU (wG_good _ inL) (hts _ inL))
    obtain ⟨v, ⟨U', l2', c2', s2'⟩, X', hpost, hsteps⟩ := hKb m meth c ⟨T.setVm vm₁, locs, cells, slots⟩ { F0 m 878 ls [.ref o, .int (iI i), .ref x] with stack := [] } (.invokestatic 98) mk ([.ref x, .int (iI i), .ref o] : List Value).toArray X₁ rfl (by rw [hml]; exact hl.1) (by rw [hb]; exact dL_law_878) (Nat.le_of_ble_eq_true rfl) (X₁.named hnamed)
      ⟨by show cells + 1 ≤ 601024; omega, by show slots + 6 ≤ 7293034; omega, rfl, ⟨by show T.heap.size = _; rw [hT], va_K.moved X₁.warmed.alike hK, gNw_warm (U := T.setVm vm₁) X₁.warmed hN, hO.moved X₁.warmed.alike, by show gW D ac _ sh rf mem T.heap; rw [hT]; exact hw'.weaken (fun _ _ _ => trivial)⟩, by
        show thK _ (T.setVm vm₁) T.heap
        rw [hT]
        exact ((hth.kept (fun a h1 h2 => hS.2.1 a h1 h2)).moved X₁.warmed.alike).narrow hA2⟩
    obtain ⟨g', mk', t, L', e1, e2, hq, h1, hL', h2, h3⟩ := hpost
    dsimp only [Pt.U, Pt.locs, Pt.cells, Pt.slots] at X' e1 e2 h1 h2 h3 hsteps
    subst h1; subst h2; subst h3
    exact ⟨v, _, t, U', L', hT, X', hL', e1, e2, hq, fun target h => hstep₁ _ (fun acts => by rw [doInvoke_state]; exact hsteps.trans h)⟩
  refine g_run hrun hS hA2 (fun v sh' rf' mem' H1 locs1 hp hw1 hS1 => ?_)
  obtain ⟨rfl, rfl, hp⟩ := hp
  rcases hp with ⟨h1, rfl, rfl⟩ | ⟨h1, rfl, rfl⟩
  · exact kk 1 _ (Or.inl ⟨h1, rfl, rfl⟩) H1 locs1 ls hw1 hS1 hl
  · exact kk 0 _ (Or.inr ⟨h1, rfl, rfl⟩) H1 locs1 ls hw1 hS1 hl
