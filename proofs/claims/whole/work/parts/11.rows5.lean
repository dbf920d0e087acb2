/-! new cells, with names for the memory behind them -/
theorem sh_keep {sh sh1 : Nat → Nat × Nat} {q a c n : Nat} {z : Nat × Nat} (e : sh1 = va_up sh q z) (hq : (sh q).1 = 0) (ha : sh a = (c, n)) (hc : c ≠ 0) : sh1 a = (c, n) := by
  rw [e, va_up_ne _ _ (fun h => by subst h; rw [ha] at hq; exact hc hq)]
  exact ha
theorem sh_new {sh sh1 : Nat → Nat × Nat} {q : Nat} {z : Nat × Nat} (e : sh1 = va_up sh q z) : sh1 q = z := by rw [e, va_up_self]
theorem sh_ne {sh : Nat → Nat × Nat} {q a c n : Nat} (hq : (sh q).1 = 0) (ha : sh a = (c, n)) (hc : c ≠ 0) : a ≠ q := fun h => by
  subst h
  rw [ha] at hq
  exact hc hq
section GR8
variable {X : gX} {cc : ByteArray} {own : String} {sh : Nat → Nat × Nat} {rf : Nat → Nat → Option Nat} {mem : Nat → Nat → Int} {cells slots pc : Nat} {lv : List (Option Value)} {st : List Value}
theorem g_newN (hC : gC X cc own) {idx ci N : Nat} (F : gNe own idx ci N) (hcl : cells + 1 ≤ (gRm X).cells) (hsl : slots + N ≤ (gRm X).slots) (hd : decode cc pc = .ok (.new idx, 3)) (kk : ∀ q sh1 rf1 mem1, (sh q).1 = 0 → sh1 = va_up sh q (ci, 0) → rf1 = va_up rf q (fun _ => none) → mem1 = va_up mem q (fun _ => 0) → gG X sh1 rf1 mem1 (cells + 1) (slots + N) (pc + 3) lv (.ref q :: st)) : gG X sh rf mem cells slots pc lv st :=
  g_new hC F hcl hsl hd (fun q hq => kk q _ _ _ hq rfl rfl rfl)
theorem g_newaN (N : Nat) (hC : gC X cc own) {atype : ArrayType} {ty : FieldType} {kd t0 : Nat} {n : Int} (harr : Cond.arrayClass (newarray.typeOf atype) ∈ wG) (hty : newarray.typeOf atype = ty) (hkt : (kd = 11 ∧ ty = .byte ∧ t0 = 0) ∨ (kd = 12 ∧ ty = .int ∧ t0 = 1) ∨ (kd = 13 ∧ ty = .boolean ∧ t0 = 2)) (hN : n = (N : Int)) (hn : N < 100000) (hcl : cells + 1 ≤ (gRm X).cells) (hsl : slots + N ≤ (gRm X).slots) (hd : decode cc pc = .ok (.newarray atype, 2)) (kk : ∀ q sh1 rf1 mem1, (sh q).1 = 0 → sh1 = va_up sh q (kd, N) → rf1 = va_up rf q (fun _ => none) → mem1 = va_up mem q (fun _ => 0) → gG X sh1 rf1 mem1 (cells + 1) (slots + N) (pc + 2) lv (.ref q :: st)) : gG X sh rf mem cells slots pc lv (.int (iI n) :: st) := by
  subst hN
  refine g_newa hC harr hty hkt (by omega) (by omega) hcl hsl hd (fun q hq => ?_)
  exact kk q _ _ _ hq rfl rfl rfl
theorem g_newqN (N : Nat) (hC : gC X cc own) {idx kd : Nat} {C : String} {n : Int} (hlk : Cond.classLink own idx C ∈ wG) (hkt : (kd = 15 ∧ C = RX4) ∨ (kd = 16 ∧ C = RX6)) (hN : n = (N : Int)) (hn : N < 100000) (hcl : cells + 1 ≤ (gRm X).cells) (hsl : slots + N ≤ (gRm X).slots) (hd : decode cc pc = .ok (.anewarray idx, 3)) (kk : ∀ q sh1 rf1 mem1, (sh q).1 = 0 → sh1 = va_up sh q (kd, N) → rf1 = va_up rf q (fun _ => none) → mem1 = va_up mem q (fun _ => 0) → gG X sh1 rf1 mem1 (cells + 1) (slots + N) (pc + 3) lv (.ref q :: st)) : gG X sh rf mem cells slots pc lv (.int (iI n) :: st) := by
  subst hN
  refine g_newq hC hlk hkt (by omega) (by omega) hcl hsl hd (fun q hq => ?_)
  exact kk q _ _ _ hq rfl rfl rfl
end GR8
