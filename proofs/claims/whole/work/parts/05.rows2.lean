/-! rows: branches, stack, bits -/
section GR2
variable {X : gX} {cc : ByteArray} {own : String} {sh : Nat → Nat × Nat} {rf : Nat → Nat → Option Nat} {mem : Nat → Nat → Int} {cells slots pc : Nat} {lv : List (Option Value)} {st : List Value}
theorem g_icmp_eq (hC : gC X cc own) {a b off : Int} {tgt : Nat} (hd : decode cc pc = .ok (.if_icmp .eq off, 3)) (ht : (pc : Int) + off = (tgt : Int)) (ha : inR a) (hb0 : inR b) (kt : a = b → gG X sh rf mem cells slots tgt lv st) (kf : a ≠ b → gG X sh rf mem cells slots (pc + 3) lv st) : gG X sh rf mem cells slots pc lv (.int (iI b) :: .int (iI a) :: st) := by
  obtain ⟨p, l, e, R, s, m, args, below, meth, c, nL, D, ac, A, Q⟩ := X
  obtain ⟨⟨hx, hb, -⟩, -⟩ := hC
  intro H locs ls hw hS hl
  have hi := iI_eq ha hb0
  exact lv_icmp_eq hx hb hd ht (fun q => kt (hi.mp q) H locs ls hw hS hl) (fun q => kf (fun z => q (hi.mpr z)) H locs ls hw hS hl)
theorem g_if_eq (hC : gC X cc own) {a off : Int} {tgt : Nat} (hd : decode cc pc = .ok (.ifCond .eq off, 3)) (ht : (pc : Int) + off = (tgt : Int)) (ha : inR a) (kt : a = 0 → gG X sh rf mem cells slots tgt lv st) (kf : a ≠ 0 → gG X sh rf mem cells slots (pc + 3) lv st) : gG X sh rf mem cells slots pc lv (.int (iI a) :: st) := by
  obtain ⟨p, l, e, R, s, m, args, below, meth, c, nL, D, ac, A, Q⟩ := X
  obtain ⟨⟨hx, hb, -⟩, -⟩ := hC
  intro H locs ls hw hS hl
  have z0 : inR 0 := ⟨by decide, by decide⟩
  have hi := iI_eq ha z0
  exact lv_if_eq hx hb hd ht (fun q => kt (hi.mp q) H locs ls hw hS hl) (fun q => kf (fun z => q (hi.mpr z)) H locs ls hw hS hl)
theorem g_icmp_ne (hC : gC X cc own) {a b off : Int} {tgt : Nat} (hd : decode cc pc = .ok (.if_icmp .ne off, 3)) (ht : (pc : Int) + off = (tgt : Int)) (ha : inR a) (hb0 : inR b) (kt : a ≠ b → gG X sh rf mem cells slots tgt lv st) (kf : a = b → gG X sh rf mem cells slots (pc + 3) lv st) : gG X sh rf mem cells slots pc lv (.int (iI b) :: .int (iI a) :: st) := by
  obtain ⟨p, l, e, R, s, m, args, below, meth, c, nL, D, ac, A, Q⟩ := X
  obtain ⟨⟨hx, hb, -⟩, -⟩ := hC
  intro H locs ls hw hS hl
  have hi := iI_eq ha hb0
  exact lv_icmp_ne hx hb hd ht (fun q => kt (fun z => q (hi.mpr z)) H locs ls hw hS hl) (fun q => kf (hi.mp q) H locs ls hw hS hl)
theorem g_if_ne (hC : gC X cc own) {a off : Int} {tgt : Nat} (hd : decode cc pc = .ok (.ifCond .ne off, 3)) (ht : (pc : Int) + off = (tgt : Int)) (ha : inR a) (kt : a ≠ 0 → gG X sh rf mem cells slots tgt lv st) (kf : a = 0 → gG X sh rf mem cells slots (pc + 3) lv st) : gG X sh rf mem cells slots pc lv (.int (iI a) :: st) := by
  obtain ⟨p, l, e, R, s, m, args, below, meth, c, nL, D, ac, A, Q⟩ := X
  obtain ⟨⟨hx, hb, -⟩, -⟩ := hC
  intro H locs ls hw hS hl
  have z0 : inR 0 := ⟨by decide, by decide⟩
  have hi := iI_eq ha z0
  exact lv_if_ne hx hb hd ht (fun q => kt (fun z => q (hi.mpr z)) H locs ls hw hS hl) (fun q => kf (hi.mp q) H locs ls hw hS hl)
theorem g_icmp_lt (hC : gC X cc own) {a b off : Int} {tgt : Nat} (hd : decode cc pc = .ok (.if_icmp .lt off, 3)) (ht : (pc : Int) + off = (tgt : Int)) (ha : inR a) (hb0 : inR b) (kt : a < b → gG X sh rf mem cells slots tgt lv st) (kf : b ≤ a → gG X sh rf mem cells slots (pc + 3) lv st) : gG X sh rf mem cells slots pc lv (.int (iI b) :: .int (iI a) :: st) := by
  obtain ⟨p, l, e, R, s, m, args, below, meth, c, nL, D, ac, A, Q⟩ := X
  obtain ⟨⟨hx, hb, -⟩, -⟩ := hC
  intro H locs ls hw hS hl
  have hi := iI_lt ha hb0
  exact lv_icmp_lt hx hb hd ht (fun q => kt (hi.mp q) H locs ls hw hS hl) (fun q => kf (Int.not_lt.mp (fun z => q (hi.mpr z))) H locs ls hw hS hl)
theorem g_if_lt (hC : gC X cc own) {a off : Int} {tgt : Nat} (hd : decode cc pc = .ok (.ifCond .lt off, 3)) (ht : (pc : Int) + off = (tgt : Int)) (ha : inR a) (kt : a < 0 → gG X sh rf mem cells slots tgt lv st) (kf : 0 ≤ a → gG X sh rf mem cells slots (pc + 3) lv st) : gG X sh rf mem cells slots pc lv (.int (iI a) :: st) := by
  obtain ⟨p, l, e, R, s, m, args, below, meth, c, nL, D, ac, A, Q⟩ := X
  obtain ⟨⟨hx, hb, -⟩, -⟩ := hC
  intro H locs ls hw hS hl
  have z0 : inR 0 := ⟨by decide, by decide⟩
  have hi := iI_lt ha z0
  exact lv_if_lt hx hb hd ht (fun q => kt (hi.mp q) H locs ls hw hS hl) (fun q => kf (Int.not_lt.mp (fun z => q (hi.mpr z))) H locs ls hw hS hl)
theorem g_icmp_ge (hC : gC X cc own) {a b off : Int} {tgt : Nat} (hd : decode cc pc = .ok (.if_icmp .ge off, 3)) (ht : (pc : Int) + off = (tgt : Int)) (ha : inR a) (hb0 : inR b) (kt : b ≤ a → gG X sh rf mem cells slots tgt lv st) (kf : a < b → gG X sh rf mem cells slots (pc + 3) lv st) : gG X sh rf mem cells slots pc lv (.int (iI b) :: .int (iI a) :: st) := by
  obtain ⟨p, l, e, R, s, m, args, below, meth, c, nL, D, ac, A, Q⟩ := X
  obtain ⟨⟨hx, hb, -⟩, -⟩ := hC
  intro H locs ls hw hS hl
  have hi := iI_le hb0 ha
  exact lv_icmp_ge hx hb hd ht (fun q => kt (hi.mp q) H locs ls hw hS hl) (fun q => kf (Int.not_le.mp (fun z => q (hi.mpr z))) H locs ls hw hS hl)
theorem g_if_ge (hC : gC X cc own) {a off : Int} {tgt : Nat} (hd : decode cc pc = .ok (.ifCond .ge off, 3)) (ht : (pc : Int) + off = (tgt : Int)) (ha : inR a) (kt : 0 ≤ a → gG X sh rf mem cells slots tgt lv st) (kf : a < 0 → gG X sh rf mem cells slots (pc + 3) lv st) : gG X sh rf mem cells slots pc lv (.int (iI a) :: st) := by
  obtain ⟨p, l, e, R, s, m, args, below, meth, c, nL, D, ac, A, Q⟩ := X
  obtain ⟨⟨hx, hb, -⟩, -⟩ := hC
  intro H locs ls hw hS hl
  have z0 : inR 0 := ⟨by decide, by decide⟩
  have hi := iI_le z0 ha
  exact lv_if_ge hx hb hd ht (fun q => kt (hi.mp q) H locs ls hw hS hl) (fun q => kf (Int.not_le.mp (fun z => q (hi.mpr z))) H locs ls hw hS hl)
theorem g_icmp_gt (hC : gC X cc own) {a b off : Int} {tgt : Nat} (hd : decode cc pc = .ok (.if_icmp .gt off, 3)) (ht : (pc : Int) + off = (tgt : Int)) (ha : inR a) (hb0 : inR b) (kt : b < a → gG X sh rf mem cells slots tgt lv st) (kf : a ≤ b → gG X sh rf mem cells slots (pc + 3) lv st) : gG X sh rf mem cells slots pc lv (.int (iI b) :: .int (iI a) :: st) := by
  obtain ⟨p, l, e, R, s, m, args, below, meth, c, nL, D, ac, A, Q⟩ := X
  obtain ⟨⟨hx, hb, -⟩, -⟩ := hC
  intro H locs ls hw hS hl
  have hi := iI_lt hb0 ha
  exact lv_icmp_gt hx hb hd ht (fun q => kt (hi.mp q) H locs ls hw hS hl) (fun q => kf (Int.not_lt.mp (fun z => q (hi.mpr z))) H locs ls hw hS hl)
theorem g_if_gt (hC : gC X cc own) {a off : Int} {tgt : Nat} (hd : decode cc pc = .ok (.ifCond .gt off, 3)) (ht : (pc : Int) + off = (tgt : Int)) (ha : inR a) (kt : 0 < a → gG X sh rf mem cells slots tgt lv st) (kf : a ≤ 0 → gG X sh rf mem cells slots (pc + 3) lv st) : gG X sh rf mem cells slots pc lv (.int (iI a) :: st) := by
  obtain ⟨p, l, e, R, s, m, args, below, meth, c, nL, D, ac, A, Q⟩ := X
  obtain ⟨⟨hx, hb, -⟩, -⟩ := hC
  intro H locs ls hw hS hl
  have z0 : inR 0 := ⟨by decide, by decide⟩
  have hi := iI_lt z0 ha
  exact lv_if_gt hx hb hd ht (fun q => kt (hi.mp q) H locs ls hw hS hl) (fun q => kf (Int.not_lt.mp (fun z => q (hi.mpr z))) H locs ls hw hS hl)
theorem g_icmp_le (hC : gC X cc own) {a b off : Int} {tgt : Nat} (hd : decode cc pc = .ok (.if_icmp .le off, 3)) (ht : (pc : Int) + off = (tgt : Int)) (ha : inR a) (hb0 : inR b) (kt : a ≤ b → gG X sh rf mem cells slots tgt lv st) (kf : b < a → gG X sh rf mem cells slots (pc + 3) lv st) : gG X sh rf mem cells slots pc lv (.int (iI b) :: .int (iI a) :: st) := by
  obtain ⟨p, l, e, R, s, m, args, below, meth, c, nL, D, ac, A, Q⟩ := X
  obtain ⟨⟨hx, hb, -⟩, -⟩ := hC
  intro H locs ls hw hS hl
  have hi := iI_le ha hb0
  exact lv_icmp_le hx hb hd ht (fun q => kt (hi.mp q) H locs ls hw hS hl) (fun q => kf (Int.not_le.mp (fun z => q (hi.mpr z))) H locs ls hw hS hl)
theorem g_if_le (hC : gC X cc own) {a off : Int} {tgt : Nat} (hd : decode cc pc = .ok (.ifCond .le off, 3)) (ht : (pc : Int) + off = (tgt : Int)) (ha : inR a) (kt : a ≤ 0 → gG X sh rf mem cells slots tgt lv st) (kf : 0 < a → gG X sh rf mem cells slots (pc + 3) lv st) : gG X sh rf mem cells slots pc lv (.int (iI a) :: st) := by
  obtain ⟨p, l, e, R, s, m, args, below, meth, c, nL, D, ac, A, Q⟩ := X
  obtain ⟨⟨hx, hb, -⟩, -⟩ := hC
  intro H locs ls hw hS hl
  have z0 : inR 0 := ⟨by decide, by decide⟩
  have hi := iI_le ha z0
  exact lv_if_le hx hb hd ht (fun q => kt (hi.mp q) H locs ls hw hS hl) (fun q => kf (Int.not_le.mp (fun z => q (hi.mpr z))) H locs ls hw hS hl)
theorem g_goto (hC : gC X cc own) {off : Int} {tgt : Nat} (hd : decode cc pc = .ok (.goto off, 3)) (ht : (pc : Int) + off = (tgt : Int)) (k : gG X sh rf mem cells slots tgt lv st) : gG X sh rf mem cells slots pc lv st := by
  obtain ⟨p, l, e, R, s, m, args, below, meth, c, nL, D, ac, A, Q⟩ := X
  obtain ⟨⟨hx, hb, -⟩, -⟩ := hC
  exact fun H locs ls hw hS hl => lv_goto hx hb hd ht (k H locs ls hw hS hl)
theorem g_dup (hC : gC X cc own) {v : Value} (hd : decode cc pc = .ok (.dup, 1)) (hv : v.category = 1) (k : gG X sh rf mem cells slots (pc + 1) lv (v :: v :: st)) : gG X sh rf mem cells slots pc lv (v :: st) := by
  obtain ⟨p, l, e, R, s, m, args, below, meth, c, nL, D, ac, A, Q⟩ := X
  obtain ⟨⟨hx, hb, -⟩, -⟩ := hC
  exact fun H locs ls hw hS hl => lv_dup hx hb hd hv (k H locs ls hw hS hl)
theorem g_pop (hC : gC X cc own) {v : Value} (hd : decode cc pc = .ok (.pop, 1)) (hv : v.category = 1) (k : gG X sh rf mem cells slots (pc + 1) lv st) : gG X sh rf mem cells slots pc lv (v :: st) := by
  obtain ⟨p, l, e, R, s, m, args, below, meth, c, nL, D, ac, A, Q⟩ := X
  obtain ⟨⟨hx, hb, -⟩, -⟩ := hC
  exact fun H locs ls hw hS hl => lv_pop hx hb hd hv (k H locs ls hw hS hl)
theorem g_dup2 (hC : gC X cc own) {v w : Value} (hd : decode cc pc = .ok (.dup2, 1)) (hv : v.category = 1) (hw0 : w.category = 1) (k : gG X sh rf mem cells slots (pc + 1) lv (v :: w :: v :: w :: st)) : gG X sh rf mem cells slots pc lv (v :: w :: st) := by
  obtain ⟨p, l, e, R, s, m, args, below, meth, c, nL, D, ac, A, Q⟩ := X
  obtain ⟨⟨hx, hb, -⟩, -⟩ := hC
  exact fun H locs ls hw hS hl => lv_dup2_11 hx hb hd hv hw0 (k H locs ls hw hS hl)
theorem g_null (hC : gC X cc own) (hd : decode cc pc = .ok (.aconst_null, 1)) (k : gG X sh rf mem cells slots (pc + 1) lv (.null :: st)) : gG X sh rf mem cells slots pc lv st := by
  obtain ⟨p, l, e, R, s, m, args, below, meth, c, nL, D, ac, A, Q⟩ := X
  obtain ⟨⟨hx, hb, -⟩, -⟩ := hC
  exact fun H locs ls hw hS hl => lv_null hx hb hd (k H locs ls hw hS hl)
theorem g_ifnullR (hC : gC X cc own) {x : Nat} {off : Int} (hd : decode cc pc = .ok (.ifnull off, 3)) (k : gG X sh rf mem cells slots (pc + 3) lv st) : gG X sh rf mem cells slots pc lv (.ref x :: st) := by
  obtain ⟨p, l, e, R, s, m, args, below, meth, c, nL, D, ac, A, Q⟩ := X
  obtain ⟨⟨hx, hb, -⟩, -⟩ := hC
  exact fun H locs ls hw hS hl => lv_ifnull hx hb hd (k H locs ls hw hS hl)
theorem g_ifnullN (hC : gC X cc own) {off : Int} {tgt : Nat} (hd : decode cc pc = .ok (.ifnull off, 3)) (ht : (pc : Int) + off = (tgt : Int)) (k : gG X sh rf mem cells slots tgt lv st) : gG X sh rf mem cells slots pc lv (.null :: st) := by
  obtain ⟨p, l, e, R, s, m, args, below, meth, c, nL, D, ac, A, Q⟩ := X
  obtain ⟨⟨hx, hb, -⟩, -⟩ := hC
  exact fun H locs ls hw hS hl => lv_ifnullN hx hb hd ht (k H locs ls hw hS hl)
theorem g_ifnonnullR (hC : gC X cc own) {x : Nat} {off : Int} {tgt : Nat} (hd : decode cc pc = .ok (.ifnonnull off, 3)) (ht : (pc : Int) + off = (tgt : Int)) (k : gG X sh rf mem cells slots tgt lv st) : gG X sh rf mem cells slots pc lv (.ref x :: st) := by
  obtain ⟨p, l, e, R, s, m, args, below, meth, c, nL, D, ac, A, Q⟩ := X
  obtain ⟨⟨hx, hb, -⟩, -⟩ := hC
  exact fun H locs ls hw hS hl => lv_ifnonnull hx hb hd ht (k H locs ls hw hS hl)
theorem g_ifnonnullN (hC : gC X cc own) {off : Int} (hd : decode cc pc = .ok (.ifnonnull off, 3)) (k : gG X sh rf mem cells slots (pc + 3) lv st) : gG X sh rf mem cells slots pc lv (.null :: st) := by
  obtain ⟨p, l, e, R, s, m, args, below, meth, c, nL, D, ac, A, Q⟩ := X
  obtain ⟨⟨hx, hb, -⟩, -⟩ := hC
  exact fun H locs ls hw hS hl => lv_ifnonnullN hx hb hd (k H locs ls hw hS hl)
theorem g_acmp_ne (hC : gC X cc own) {x y : Nat} {off : Int} {tgt : Nat} (hd : decode cc pc = .ok (.if_acmp .ne off, 3)) (ht : (pc : Int) + off = (tgt : Int)) (kt : x ≠ y → gG X sh rf mem cells slots tgt lv st) (kf : x = y → gG X sh rf mem cells slots (pc + 3) lv st) : gG X sh rf mem cells slots pc lv (.ref y :: .ref x :: st) := by
  obtain ⟨p, l, e, R, s, m, args, below, meth, c, nL, D, ac, A, Q⟩ := X
  obtain ⟨⟨hx, hb, -⟩, -⟩ := hC
  exact fun H locs ls hw hS hl => lv_acmp_ne (rx := some x) (ry := some y) hx hb hd ht (fun q => kt (fun z => q (by rw [z])) H locs ls hw hS hl) (fun q => kf (by simpa using q) H locs ls hw hS hl)
theorem g_tableOut (hC : gC X cc own) {a dflt lo hi : Int} {offs : Array Int} {len tgt : Nat} (hd : decode cc pc = .ok (.tableswitch dflt lo hi offs, len)) (ha : inR a) (h : a < lo ∨ hi < a) (ht : (pc : Int) + dflt = (tgt : Int)) (k : gG X sh rf mem cells slots tgt lv st) : gG X sh rf mem cells slots pc lv (.int (iI a) :: st) := by
  obtain ⟨p, l, e, R, s, m, args, below, meth, c, nL, D, ac, A, Q⟩ := X
  obtain ⟨⟨hx, hb, -⟩, -⟩ := hC
  exact fun H locs ls hw hS hl => lv_tableOut hx hb hd (by rw [iI_toInt ha]; exact h) ht (k H locs ls hw hS hl)
theorem g_tableIn (hC : gC X cc own) {a dflt lo hi off : Int} {offs : Array Int} {len tgt : Nat} (hd : decode cc pc = .ok (.tableswitch dflt lo hi offs, len)) (v : Int) (ha : a = v) (hr : inR v) (h1 : ¬ v < lo) (h2 : ¬ hi < v) (ho : offs[(v - lo).toNat]? = some off) (ht : (pc : Int) + off = (tgt : Int)) (k : gG X sh rf mem cells slots tgt lv st) : gG X sh rf mem cells slots pc lv (.int (iI a) :: st) := by
  obtain ⟨p, l, e, R, s, m, args, below, meth, c, nL, D, ac, A, Q⟩ := X
  obtain ⟨⟨hx, hb, -⟩, -⟩ := hC
  subst ha
  exact fun H locs ls hw hS hl => lv_tableIn hx hb hd (by rw [iI_toInt hr]; exact h1) (by rw [iI_toInt hr]; exact h2) (by rw [iI_toInt hr]; exact ho) ht (k H locs ls hw hS hl)
/-- another name for the int on top -/
theorem g_topI {x : Int32} {a : Int} (h : x = iI a) (k : gG X sh rf mem cells slots pc lv (.int (iI a) :: st)) : gG X sh rf mem cells slots pc lv (.int x :: st) := h ▸ k
theorem g_top {a b : Int} (h : a = b) (k : gG X sh rf mem cells slots pc lv (.int (iI b) :: st)) : gG X sh rf mem cells slots pc lv (.int (iI a) :: st) := h ▸ k
theorem g_iand (hC : gC X cc own) {x y : Int32} (hd : decode cc pc = .ok (.iand, 1)) (k : gG X sh rf mem cells slots (pc + 1) lv (.int (x &&& y) :: st)) : gG X sh rf mem cells slots pc lv (.int y :: .int x :: st) := by
  obtain ⟨p, l, e, R, s, m, args, below, meth, c, nL, D, ac, A, Q⟩ := X
  obtain ⟨⟨hx, hb, -⟩, -⟩ := hC
  exact fun H locs ls hw hS hl => lv_iand hx hb hd (k H locs ls hw hS hl)
theorem g_ior (hC : gC X cc own) {x y : Int32} (hd : decode cc pc = .ok (.ior, 1)) (k : gG X sh rf mem cells slots (pc + 1) lv (.int (x ||| y) :: st)) : gG X sh rf mem cells slots pc lv (.int y :: .int x :: st) := by
  obtain ⟨p, l, e, R, s, m, args, below, meth, c, nL, D, ac, A, Q⟩ := X
  obtain ⟨⟨hx, hb, -⟩, -⟩ := hC
  exact fun H locs ls hw hS hl => lv_ior hx hb hd (k H locs ls hw hS hl)
theorem g_ishl (hC : gC X cc own) {x y : Int32} (hd : decode cc pc = .ok (.ishl, 1)) (k : gG X sh rf mem cells slots (pc + 1) lv (.int (x <<< (y &&& 31)) :: st)) : gG X sh rf mem cells slots pc lv (.int y :: .int x :: st) := by
  obtain ⟨p, l, e, R, s, m, args, below, meth, c, nL, D, ac, A, Q⟩ := X
  obtain ⟨⟨hx, hb, -⟩, -⟩ := hC
  exact fun H locs ls hw hS hl => lv_ishl hx hb hd (k H locs ls hw hS hl)
theorem g_ishr (hC : gC X cc own) {x y : Int32} (hd : decode cc pc = .ok (.ishr, 1)) (k : gG X sh rf mem cells slots (pc + 1) lv (.int (x >>> (y &&& 31)) :: st)) : gG X sh rf mem cells slots pc lv (.int y :: .int x :: st) := by
  obtain ⟨p, l, e, R, s, m, args, below, meth, c, nL, D, ac, A, Q⟩ := X
  obtain ⟨⟨hx, hb, -⟩, -⟩ := hC
  exact fun H locs ls hw hS hl => lv_ishr hx hb hd (k H locs ls hw hS hl)
theorem g_iushr (hC : gC X cc own) {x y : Int32} (hd : decode cc pc = .ok (.iushr, 1)) (k : gG X sh rf mem cells slots (pc + 1) lv (.int (x.toUInt32 >>> (y.toUInt32 &&& Int32.toUInt32 31)).toInt32 :: st)) : gG X sh rf mem cells slots pc lv (.int y :: .int x :: st) := by
  obtain ⟨p, l, e, R, s, m, args, below, meth, c, nL, D, ac, A, Q⟩ := X
  obtain ⟨⟨hx, hb, -⟩, -⟩ := hC
  exact fun H locs ls hw hS hl => lv_iushr hx hb hd rfl (k H locs ls hw hS hl)
theorem g_i2b (hC : gC X cc own) {x : Int32} (hd : decode cc pc = .ok (.i2b, 1)) (k : gG X sh rf mem cells slots (pc + 1) lv (.int x.toInt8.toInt32 :: st)) : gG X sh rf mem cells slots pc lv (.int x :: st) := by
  obtain ⟨p, l, e, R, s, m, args, below, meth, c, nL, D, ac, A, Q⟩ := X
  obtain ⟨⟨hx, hb, -⟩, -⟩ := hC
  exact fun H locs ls hw hS hl => lv_i2b hx hb hd rfl (k H locs ls hw hS hl)
theorem g_idiv (hC : gC X cc own) {a b : Int} (hd : decode cc pc = .ok (.idiv, 1)) (ha : 0 ≤ a) (ha2 : a < 2147483648) (hb0 : 0 < b) (hb2 : b < 2147483648) (k : gG X sh rf mem cells slots (pc + 1) lv (.int (iI (a / b)) :: st)) : gG X sh rf mem cells slots pc lv (.int (iI b) :: .int (iI a) :: st) := by
  obtain ⟨p, l, e, R, s, m, args, below, meth, c, nL, D, ac, A, Q⟩ := X
  obtain ⟨⟨hx, hb, -⟩, -⟩ := hC
  intro H locs ls hw hS hl
  have ea : iI a = nI a.toNat := by rw [← iI_nI, Int.toNat_of_nonneg ha]
  have eb : iI b = nI b.toNat := by rw [← iI_nI, Int.toNat_of_nonneg (by omega)]
  have hne : ¬ iI b = 0 := by
    rw [eb]
    exact nI_ne0 (by omega) (by omega)
  refine lv_idiv hx hb hd hne ?_
  have ed : iI a / iI b = iI (a / b) := by
    rw [ea, eb, pk_div (by omega) (by omega) (by omega), ← iI_nI]
    congr 1
    rw [Int.natCast_ediv, Int.toNat_of_nonneg ha, Int.toNat_of_nonneg (by omega)]
  rw [ed]
  exact k H locs ls hw hS hl
theorem g_irem (hC : gC X cc own) {a b : Int} (hd : decode cc pc = .ok (.irem, 1)) (ha : 0 ≤ a) (ha2 : a < 2147483648) (hb0 : 0 < b) (hb2 : b < 2147483648) (k : gG X sh rf mem cells slots (pc + 1) lv (.int (iI (a % b)) :: st)) : gG X sh rf mem cells slots pc lv (.int (iI b) :: .int (iI a) :: st) := by
  obtain ⟨p, l, e, R, s, m, args, below, meth, c, nL, D, ac, A, Q⟩ := X
  obtain ⟨⟨hx, hb, -⟩, -⟩ := hC
  intro H locs ls hw hS hl
  have ea : iI a = nI a.toNat := by rw [← iI_nI, Int.toNat_of_nonneg ha]
  have eb : iI b = nI b.toNat := by rw [← iI_nI, Int.toNat_of_nonneg (by omega)]
  have hne : ¬ iI b = 0 := by
    rw [eb]
    exact nI_ne0 (by omega) (by omega)
  refine lv_irem hx hb hd hne ?_
  have ed : iI a - iI a / iI b * iI b = iI (a % b) := by
    rw [ea, eb, pk_rem (by omega) (by omega) (by omega), ← iI_nI]
    congr 1
    rw [Int.natCast_emod, Int.toNat_of_nonneg ha, Int.toNat_of_nonneg (by omega)]
  rw [ed]
  exact k H locs ls hw hS hl
end GR2
