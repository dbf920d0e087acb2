/-! the forms of contracts: P reads and answers an int, R reads and answers a reference, M writes ints and answers one, V writes ints; A and U also make cells -/
section GF
variable (sh : Nat → Nat × Nat) (rf : Nat → Nat → Option Nat) (mem : Nat → Nat → Int)
def pP (P : Int → Prop) : gPo := fun v s r m => s = sh ∧ r = rf ∧ m = mem ∧ ∃ x : Int, v = some (.int (iI x)) ∧ P x
def pR (P : Option Nat → Prop) : gPo := fun v s r m => s = sh ∧ r = rf ∧ m = mem ∧ ∃ x : Option Nat, v = some (va_rf x) ∧ P x
def pM (P : Int → (Nat → Nat → Int) → Prop) : gPo := fun v s r m => s = sh ∧ r = rf ∧ ∃ x : Int, v = some (.int (iI x)) ∧ P x m
def pV (P : (Nat → Nat → Int) → Prop) : gPo := fun v s r m => s = sh ∧ r = rf ∧ v = none ∧ P m
def pA (P : Int → (Nat → Nat × Nat) → (Nat → Nat → Option Nat) → (Nat → Nat → Int) → Prop) : gPo := fun v s r m => ∃ x : Int, v = some (.int (iI x)) ∧ P x s r m
def pU (P : (Nat → Nat × Nat) → (Nat → Nat → Option Nat) → (Nat → Nat → Int) → Prop) : gPo := fun v s r m => v = none ∧ P s r m
end GF
section GR7
variable {X : gX} {cc : ByteArray} {own : String} {sh : Nat → Nat × Nat} {rf : Nat → Nat → Option Nat} {mem : Nat → Nat → Int} {cells slots pc : Nat} {lv : List (Option Value)} {st st0 : List Value} {M : gMd} {d mc ms n idx ci : Nat} {As : List Value}
theorem g_VP (hC : gC X cc own) {a k : Nat} {P : Int → Prop} (hM : gMet (gl X) (gD X) (gac X) M d (.ref a :: As) 0 0 sh rf mem (pP sh rf mem P)) (cd : gCv M n ci) (lk : Cond.methodLink own idx M.1 ∈ wG) (hs : sh a = (ci, k)) (hn : As.length = n) (hst : st0 = As.reverse ++ .ref a :: st) (hr : (st.map fun v => v.category).sum ≤ 8) (hf : gFit X d 0 0 cells slots) (hd : decode cc pc = .ok (.invokevirtual idx, 3)) (kk : ∀ x, P x → gG X sh rf mem cells slots (pc + 3) lv (.int (iI x) :: st)) : gG X sh rf mem cells slots pc lv st0 :=
  g_callV hC hM cd lk hs hn hst hr hf hd (fun v sh' rf' mem' hp => by obtain ⟨rfl, rfl, rfl, x, rfl, h⟩ := hp; exact kk x h)
theorem g_VR (hC : gC X cc own) {a k : Nat} {P : Option Nat → Prop} (hM : gMet (gl X) (gD X) (gac X) M d (.ref a :: As) 0 0 sh rf mem (pR sh rf mem P)) (cd : gCv M n ci) (lk : Cond.methodLink own idx M.1 ∈ wG) (hs : sh a = (ci, k)) (hn : As.length = n) (hst : st0 = As.reverse ++ .ref a :: st) (hr : (st.map fun v => v.category).sum ≤ 8) (hf : gFit X d 0 0 cells slots) (hd : decode cc pc = .ok (.invokevirtual idx, 3)) (kk : ∀ x, P x → gG X sh rf mem cells slots (pc + 3) lv (va_rf x :: st)) : gG X sh rf mem cells slots pc lv st0 :=
  g_callV hC hM cd lk hs hn hst hr hf hd (fun v sh' rf' mem' hp => by obtain ⟨rfl, rfl, rfl, x, rfl, h⟩ := hp; exact kk x h)
theorem g_VM (hC : gC X cc own) {a k : Nat} {P : Int → (Nat → Nat → Int) → Prop} (hM : gMet (gl X) (gD X) (gac X) M d (.ref a :: As) 0 0 sh rf mem (pM sh rf P)) (cd : gCv M n ci) (lk : Cond.methodLink own idx M.1 ∈ wG) (hs : sh a = (ci, k)) (hn : As.length = n) (hst : st0 = As.reverse ++ .ref a :: st) (hr : (st.map fun v => v.category).sum ≤ 8) (hf : gFit X d 0 0 cells slots) (hd : decode cc pc = .ok (.invokevirtual idx, 3)) (kk : ∀ x mem', P x mem' → gG X sh rf mem' cells slots (pc + 3) lv (.int (iI x) :: st)) : gG X sh rf mem cells slots pc lv st0 :=
  g_callV hC hM cd lk hs hn hst hr hf hd (fun v sh' rf' mem' hp => by obtain ⟨rfl, rfl, x, rfl, h⟩ := hp; exact kk x mem' h)
theorem g_VV (hC : gC X cc own) {a k : Nat} {P : (Nat → Nat → Int) → Prop} (hM : gMet (gl X) (gD X) (gac X) M d (.ref a :: As) 0 0 sh rf mem (pV sh rf P)) (cd : gCv M n ci) (lk : Cond.methodLink own idx M.1 ∈ wG) (hs : sh a = (ci, k)) (hn : As.length = n) (hst : st0 = As.reverse ++ .ref a :: st) (hr : (st.map fun v => v.category).sum ≤ 8) (hf : gFit X d 0 0 cells slots) (hd : decode cc pc = .ok (.invokevirtual idx, 3)) (kk : ∀ mem', P mem' → gG X sh rf mem' cells slots (pc + 3) lv st) : gG X sh rf mem cells slots pc lv st0 :=
  g_callV hC hM cd lk hs hn hst hr hf hd (fun v sh' rf' mem' hp => by obtain ⟨rfl, rfl, rfl, h⟩ := hp; exact kk mem' h)
theorem g_VA (hC : gC X cc own) {a k : Nat} {P : Int → (Nat → Nat × Nat) → (Nat → Nat → Option Nat) → (Nat → Nat → Int) → Prop} (hM : gMet (gl X) (gD X) (gac X) M d (.ref a :: As) mc ms sh rf mem (pA P)) (cd : gCv M n ci) (lk : Cond.methodLink own idx M.1 ∈ wG) (hs : sh a = (ci, k)) (hn : As.length = n) (hst : st0 = As.reverse ++ .ref a :: st) (hr : (st.map fun v => v.category).sum ≤ 8) (hf : gFit X d mc ms cells slots) (hd : decode cc pc = .ok (.invokevirtual idx, 3)) (kk : ∀ x sh' rf' mem', P x sh' rf' mem' → gG X sh' rf' mem' (cells + mc) (slots + ms) (pc + 3) lv (.int (iI x) :: st)) : gG X sh rf mem cells slots pc lv st0 :=
  g_callV hC hM cd lk hs hn hst hr hf hd (fun v sh' rf' mem' hp => by obtain ⟨x, rfl, h⟩ := hp; exact kk x sh' rf' mem' h)
theorem g_VU (hC : gC X cc own) {a k : Nat} {P : (Nat → Nat × Nat) → (Nat → Nat → Option Nat) → (Nat → Nat → Int) → Prop} (hM : gMet (gl X) (gD X) (gac X) M d (.ref a :: As) mc ms sh rf mem (pU P)) (cd : gCv M n ci) (lk : Cond.methodLink own idx M.1 ∈ wG) (hs : sh a = (ci, k)) (hn : As.length = n) (hst : st0 = As.reverse ++ .ref a :: st) (hr : (st.map fun v => v.category).sum ≤ 8) (hf : gFit X d mc ms cells slots) (hd : decode cc pc = .ok (.invokevirtual idx, 3)) (kk : ∀ sh' rf' mem', P sh' rf' mem' → gG X sh' rf' mem' (cells + mc) (slots + ms) (pc + 3) lv st) : gG X sh rf mem cells slots pc lv st0 :=
  g_callV hC hM cd lk hs hn hst hr hf hd (fun v sh' rf' mem' hp => by obtain ⟨rfl, h⟩ := hp; exact kk sh' rf' mem' h)
theorem g_SP (hC : gC X cc own) {P : Int → Prop} (hM : gMet (gl X) (gD X) (gac X) M d As 0 0 sh rf mem (pP sh rf mem P)) (cd : gCs M n) (lk : Cond.methodLink own idx M.1 ∈ wG) (hn : As.length = n) (hst : st0 = As.reverse ++ st) (hr : (st.map fun v => v.category).sum ≤ 8) (hf : gFit X d 0 0 cells slots) (hd : decode cc pc = .ok (.invokestatic idx, 3)) (kk : ∀ x, P x → gG X sh rf mem cells slots (pc + 3) lv (.int (iI x) :: st)) : gG X sh rf mem cells slots pc lv st0 :=
  g_callS hC hM cd lk hn hst hr hf hd (fun v sh' rf' mem' hp => by obtain ⟨rfl, rfl, rfl, x, rfl, h⟩ := hp; exact kk x h)
theorem g_IU (hC : gC X cc own) {a : Nat} {P : (Nat → Nat × Nat) → (Nat → Nat → Option Nat) → (Nat → Nat → Int) → Prop} (hM : gMet (gl X) (gD X) (gac X) M d (.ref a :: As) mc ms sh rf mem (pU P)) (cd : gCi M n) (lk : Cond.methodLink own idx M.1 ∈ wG) (hn : As.length = n) (hst : st0 = As.reverse ++ .ref a :: st) (hr : (st.map fun v => v.category).sum ≤ 8) (hf : gFit X d mc ms cells slots) (hd : decode cc pc = .ok (.invokespecial idx, 3)) (kk : ∀ sh' rf' mem', P sh' rf' mem' → gG X sh' rf' mem' (cells + mc) (slots + ms) (pc + 3) lv st) : gG X sh rf mem cells slots pc lv st0 :=
  g_callI hC hM cd lk hn hst hr hf hd (fun v sh' rf' mem' hp => by obtain ⟨rfl, h⟩ := hp; exact kk sh' rf' mem' h)
theorem g_SPn (hC : gC X cc own) {P : Int → Prop} (hM : gMet (gl X) (gD X) (gac X) M d As 0 0 sh rf mem (pP sh rf mem P)) (cd : gCs M n) (lk : Cond.methodLinkNest own idx M.1 RX9 ∈ gNw) (hn : As.length = n) (hst : st0 = As.reverse ++ st) (hr : (st.map fun v => v.category).sum ≤ 8) (hf : gFit X d 0 0 cells slots) (hd : decode cc pc = .ok (.invokestatic idx, 3)) (kk : ∀ x, P x → gG X sh rf mem cells slots (pc + 3) lv (.int (iI x) :: st)) : gG X sh rf mem cells slots pc lv st0 := by
  obtain ⟨p, l, e, R, s, m, args, below, meth, c, nL, D, ac, A, Q⟩ := X
  obtain ⟨⟨hx, hb, hml, hown, hts⟩, hK, hA, hN, hO⟩ := hC
  obtain ⟨⟨c1, c2, c3, c4, c5, c6⟩, c7⟩ := cd
  subst hst
  intro H locs ls hw hS hl
  have hw' := hw
  obtain ⟨L, hL, hP, hD⟩ := hw
  have cb := va_cnB (R := R) (own := own) (host := RX9) (index := idx) (maxL := M.2.2.1) (mc := 0) (ms := 0) (y := M.1) (bytes := M.2.1) (ret := M.2.2.2) (rm := gRo d 0 0) n hts (wG_in (c := .code M.1 M.2.1 M.2.2.1 M.2.2.2) c1) rfl rfl rfl (hN _ lk) (hts _ c2) ⟨c3, c4, c5⟩ ⟨hf.1, by have := hf.2.1; show _ + 40 * d ≤ R.locals; have h9 : 40 + 40 * d ≤ R.locals := this; omega⟩
  refine g_run (va_runSN (As := As) (rest := st) ⟨hx, hb, hml, hown, hts⟩ (hM H.size) ⟨cb, hts _ c7, trivial⟩ ⟨gPre_blind, fun U hU hW => ⟨rfl, by rw [hU], va_K.moved hW.alike hK, gNw_warm hW hN, hO.moved hW.alike, by rw [hU]; exact hw'.weaken (fun _ _ _ => trivial)⟩⟩ rfl hn hl.1 rfl (lv_room hr) hd ⟨hf.2.2.1, hf.2.2.2⟩) hS (fun q hq => ?_) (fun v sh' rf' mem' H1 locs1 hp hw1 hS1 => ?_)
  · rcases hq with h | h
    · obtain ⟨j, hj⟩ := gW_get (D := D) (A := A) (H := H) (rf := rf) (mem := mem) (ac := ac) hL h
      exact hD.2 j _ hj
    · exact hA q (Nat.le_trans hS.1 h)
  · obtain ⟨rfl, rfl, rfl, x, rfl, h⟩ := hp
    exact kk x h H1 locs1 ls hw1 hS1 hl
theorem g_IUn (hC : gC X cc own) {a : Nat} {P : (Nat → Nat × Nat) → (Nat → Nat → Option Nat) → (Nat → Nat → Int) → Prop} (hM : gMet (gl X) (gD X) (gac X) M d (.ref a :: As) mc ms sh rf mem (pU P)) (cd : gCi M n) (lk : Cond.methodLinkNest own idx M.1 RX9 ∈ gNw) (hn : As.length = n) (hst : st0 = As.reverse ++ .ref a :: st) (hr : (st.map fun v => v.category).sum ≤ 8) (hf : gFit X d mc ms cells slots) (hd : decode cc pc = .ok (.invokespecial idx, 3)) (kk : ∀ sh' rf' mem', P sh' rf' mem' → gG X sh' rf' mem' (cells + mc) (slots + ms) (pc + 3) lv st) : gG X sh rf mem cells slots pc lv st0 := by
  obtain ⟨p, l, e, R, s, m, args, below, meth, c, nL, D, ac, A, Q⟩ := X
  obtain ⟨⟨hx, hb, hml, hown, hts⟩, hK, hA, hN, hO⟩ := hC
  obtain ⟨y, bs, mL, rt⟩ := M
  obtain ⟨⟨c1, c2, c3, c4, c5, c6⟩, c7, c8, c9⟩ := cd
  dsimp only at c9
  subst c9
  subst hst
  intro H locs ls hw hS hl
  have hw' := hw
  obtain ⟨L, hL, hP, hD⟩ := hw
  have cb := va_cnB (R := R) (own := own) (host := RX9) (index := idx) (maxL := mL) (mc := mc) (ms := ms) (y := y) (bytes := bs) (ret := none) (rm := gRo d mc ms) n hts (wG_in (c := .code y bs mL none) c1) rfl rfl rfl (hN _ lk) (hts _ c2) ⟨c3, c4, c5⟩ ⟨hf.1, by have := hf.2.1; show _ + 40 * d ≤ R.locals; have h9 : 40 + 40 * d ≤ R.locals := this; have h8 : mL ≤ 21 := c6; omega⟩
  refine g_run (va_runIN (As := As) (rest := st) ⟨hx, hb, hml, hown, hts⟩ (hM H.size) ⟨cb, c7, hts _ c8⟩ ⟨gPre_blind, fun U hU hW => ⟨rfl, by rw [hU], va_K.moved hW.alike hK, gNw_warm hW hN, hO.moved hW.alike, by rw [hU]; exact hw'.weaken (fun _ _ _ => trivial)⟩⟩ rfl hn hl.1 rfl (lv_room hr) hd ⟨hf.2.2.1, hf.2.2.2⟩) hS (fun q hq => ?_) (fun v sh' rf' mem' H1 locs1 hp hw1 hS1 => ?_)
  · rcases hq with h | h
    · obtain ⟨j, hj⟩ := gW_get (D := D) (A := A) (H := H) (rf := rf) (mem := mem) (ac := ac) hL h
      exact hD.2 j _ hj
    · exact hA q (Nat.le_trans hS.1 h)
  · obtain ⟨rfl, h⟩ := hp
    exact kk sh' rf' mem' h H1 locs1 ls hw1 hS1 hl
end GR7
