/-! the memory: of each address its kind and length, what its int places and its reference places hold -/
def iI (z : Int) : Int32 := Int32.ofInt z
theorem iI_add (a b : Int) : iI a + iI b = iI (a + b) := (Int32.ofInt_add a b).symm
theorem iI_sub (a b : Int) : iI a - iI b = iI (a - b) := (Int32.ofInt_sub a b).symm
theorem iI_mul (a b : Int) : iI a * iI b = iI (a * b) := (Int32.ofInt_mul a b).symm
theorem iI_neg (a : Int) : -iI a = iI (-a) := (Int32.ofInt_neg a).symm
theorem iI_of (x : Int32) : iI x.toInt = x := Int32.ofInt_toInt x
def inR (z : Int) : Prop := -2147483648 ≤ z ∧ z < 2147483648
theorem inR_of (x : Int32) : inR x.toInt := ⟨Int32.le_toInt x, Int32.toInt_lt x⟩
theorem iI_toInt {z : Int} (h : inR z) : (iI z).toInt = z := Int32.toInt_ofInt_of_le h.1 h.2
theorem iI_lt {a b : Int} (ha : inR a) (hb : inR b) : iI a < iI b ↔ a < b := by
  rw [Int32.lt_iff_toInt_lt, iI_toInt ha, iI_toInt hb]
theorem iI_le {a b : Int} (ha : inR a) (hb : inR b) : iI a ≤ iI b ↔ a ≤ b := by
  rw [Int32.le_iff_toInt_le, iI_toInt ha, iI_toInt hb]
theorem iI_eq {a b : Int} (ha : inR a) (hb : inR b) : iI a = iI b ↔ a = b := by
  rw [← Int32.toInt_inj, iI_toInt ha, iI_toInt hb]
theorem iI_nI (n : Nat) : iI (n : Int) = nI n := Int32.ofInt_eq_ofNat
theorem iI_clamp {i : Int} (h0 : 0 ≤ i) (h1 : i < 2147483648) : (iI i).toNatClampNeg = i.toNat :=
  Int32.toNatClampNeg_ofInt_of_le (by omega) h1
theorem iI_in {i : Int} {n : Nat} (h0 : 0 ≤ i) (h1 : i < n) (hn : n < 2147483648) : vp_in (iI i) n := by
  have e : iI i = nI i.toNat := by rw [← iI_nI, Int.toNat_of_nonneg h0]
  rw [e]
  exact vp_in_nI (by omega) (by omega)
theorem iI_not_neg {i : Int} (h0 : 0 ≤ i) (h1 : i < 2147483648) : ¬ iI i < 0 := by
  have h : iI i < iI 0 ↔ i < 0 := iI_lt ⟨by omega, h1⟩ ⟨by decide, by decide⟩
  intro q
  exact absurd (h.mp q) (by omega)
def gup (mem : Nat → Nat → Int) (a k : Nat) (v : Int) : Nat → Nat → Int := fun b j => if b = a ∧ j = k then v else mem b j
def gur (rf : Nat → Nat → Option Nat) (a k : Nat) (v : Option Nat) : Nat → Nat → Option Nat := fun b j => if b = a ∧ j = k then v else rf b j
theorem gup_s (mem : Nat → Nat → Int) (a k : Nat) (v : Int) : gup mem a k v a k = v := by simp [gup]
theorem gup_a (mem : Nat → Nat → Int) {a b : Nat} (k j : Nat) (v : Int) (h : b ≠ a) : gup mem a k v b j = mem b j := by simp [gup, h]
theorem gup_k (mem : Nat → Nat → Int) (a b : Nat) {k j : Nat} (v : Int) (h : j ≠ k) : gup mem a k v b j = mem b j := by simp [gup, h]
theorem gur_s (rf : Nat → Nat → Option Nat) (a k : Nat) (v : Option Nat) : gur rf a k v a k = v := by simp [gur]
theorem gur_a (rf : Nat → Nat → Option Nat) {a b : Nat} (k j : Nat) (v : Option Nat) (h : b ≠ a) : gur rf a k v b j = rf b j := by simp [gur, h]
theorem gur_k (rf : Nat → Nat → Option Nat) (a b : Nat) {k j : Nat} (v : Option Nat) (h : j ≠ k) : gur rf a k v b j = rf b j := by simp [gur, h]
/-- which fields of a kind of object hold references -/
def gfl : Nat → List Bool
  | 1 => [true]
  | 2 => [true, true, true, false, false, false, false]
  | 3 => [true, true, true, false, false]
  | 4 => [true, true, true, false]
  | 5 => [true, false]
  | 6 => [true, false, false, false, false]
  | 7 => [true, false]
  | 8 => [false, false, false]
  | 9 => [true, true, true, true, true, true, true]
  | 10 => [false, false, false, false, true, true, true, true, true, true, true, true, true, true, true, true, true, true, false, true, true, true, true, false, false, true, true, true, false, false, true, true, false, false, false]
  | _ => []
def gfs (r : Nat → Option Nat) (m : Nat → Int) : Nat → List Bool → List Value
  | _, [] => []
  | k, b :: t => (bif b then va_rf (r k) else .int (iI (m k))) :: gfs r m (k + 1) t
theorem gfs_len (r : Nat → Option Nat) (m : Nat → Int) : ∀ (l : List Bool) (k : Nat), (gfs r m k l).length = l.length
  | [], _ => rfl
  | b :: t, k => by simp [gfs, gfs_len r m t (k + 1)]
theorem gfs_get (r : Nat → Option Nat) (m : Nat → Int) : ∀ (l : List Bool) (k j : Nat) (b : Bool), l[j]? = some b → (gfs r m k l)[j]? = some (bif b then va_rf (r (k + j)) else .int (iI (m (k + j))))
  | [], _, _, _, h => by simp at h
  | c :: t, k, 0, b, h => by
    simp at h
    subst h
    simp [gfs]
  | c :: t, k, j + 1, b, h => by
    simp at h
    simp only [gfs, List.getElem?_cons_succ]
    rw [gfs_get r m t (k + 1) j b h, show k + 1 + j = k + (j + 1) by omega]
theorem gfs_eq {r r' : Nat → Option Nat} {m m' : Nat → Int} : ∀ (l : List Bool) (k : Nat), (∀ i, k ≤ i → r i = r' i) → (∀ i, k ≤ i → m i = m' i) → gfs r m k l = gfs r' m' k l
  | [], _, _, _ => rfl
  | c :: t, k, h1, h2 => by
    simp only [gfs]
    rw [h1 k (Nat.le_refl _), h2 k (Nat.le_refl _), gfs_eq t (k + 1) (fun i hi => h1 i (by omega)) (fun i hi => h2 i (by omega))]
theorem gfs_setI (r : Nat → Option Nat) (m : Nat → Int) (v : Int) : ∀ (l : List Bool) (k j : Nat), l[j]? = some false → (gfs r m k l).set j (.int (iI v)) = gfs r (fun i => if i = k + j then v else m i) k l
  | [], _, _, h => by simp at h
  | c :: t, k, 0, h => by
    simp at h
    subst h
    simp only [gfs, List.set_cons_zero, cond_false, Nat.add_zero, if_true]
    exact congrArg _ (gfs_eq t (k + 1) (fun _ _ => rfl) (fun i hi => (if_neg (by omega)).symm))
  | c :: t, k, j + 1, h => by
    simp at h
    simp only [gfs, List.set_cons_succ]
    rw [gfs_setI r m v t (k + 1) j h, if_neg (by omega), show k + 1 + j = k + (j + 1) by omega]
theorem gfs_setR (r : Nat → Option Nat) (m : Nat → Int) (v : Option Nat) : ∀ (l : List Bool) (k j : Nat), l[j]? = some true → (gfs r m k l).set j (va_rf v) = gfs (fun i => if i = k + j then v else r i) m k l
  | [], _, _, h => by simp at h
  | c :: t, k, 0, h => by
    simp at h
    subst h
    simp only [gfs, List.set_cons_zero, cond_true, Nat.add_zero, if_true]
    exact congrArg _ (gfs_eq t (k + 1) (fun i hi => (if_neg (by omega)).symm) (fun _ _ => rfl))
  | c :: t, k, j + 1, h => by
    simp at h
    simp only [gfs, List.set_cons_succ]
    rw [gfs_setR r m v t (k + 1) j h, if_neg (by omega), show k + 1 + j = k + (j + 1) by omega]
/-- what stands at an address: kinds 1 .. 10 are objects, 11 byte[], 12 int[], 13 boolean[], 14 long[], 15 Lines[], 16 RecordSet[]; kind 0: nothing of ours -/
def gE (ac : Nat → ClassId) (sh : Nat → Nat × Nat) (rf : Nat → Nat → Option Nat) (mem : Nat → Nat → Int) (a : Nat) : va_E :=
  if (sh a).1 ≤ 10 then .inr ((sh a).1, gfs (rf a) (mem a) 0 (gfl (sh a).1))
  else if (sh a).1 = 14 then .inl (ac 14, (sh a).2, .inr (.inl (fun k => Int64.ofInt (mem a k))))
  else if 15 ≤ (sh a).1 then .inl (ac (sh a).1, (sh a).2, .inr (.inr (.inr (.inr (rf a)))))
  else .inl (ac (sh a).1, (sh a).2, .inl (fun k => iI (mem a k)))
section GE
variable {ac : Nat → ClassId} {sh : Nat → Nat × Nat} {rf : Nat → Nat → Option Nat} {mem : Nat → Nat → Int} {a : Nat}
theorem gE_o {c n : Nat} (h : sh a = (c, n)) (hc : c ≤ 10) : gE ac sh rf mem a = .inr (c, gfs (rf a) (mem a) 0 (gfl c)) := by
  unfold gE
  rw [h, if_pos hc]
theorem gE_i {c n : Nat} (h : sh a = (c, n)) (h1 : 10 < c) (h2 : c < 14) : gE ac sh rf mem a = .inl (ac c, n, .inl (fun k => iI (mem a k))) := by
  unfold gE
  rw [h, if_neg (by simp; omega), if_neg (by simp; omega), if_neg (by simp; omega)]
theorem gE_l {n : Nat} (h : sh a = (14, n)) : gE ac sh rf mem a = .inl (ac 14, n, .inr (.inl (fun k => Int64.ofInt (mem a k)))) := by
  unfold gE
  rw [h, if_neg (by simp), if_pos rfl]
theorem gE_q {c n : Nat} (h : sh a = (c, n)) (h1 : 14 < c) : gE ac sh rf mem a = .inl (ac c, n, .inr (.inr (.inr (.inr (rf a))))) := by
  unfold gE
  rw [h, if_neg (by simp; omega), if_neg (by simp; omega), if_pos (by simp; omega)]
theorem gE_ne {sh' : Nat → Nat × Nat} {rf' : Nat → Nat → Option Nat} {mem' : Nat → Nat → Int} (h1 : sh' a = sh a) (h2 : rf' a = rf a) (h3 : mem' a = mem a) : gE ac sh' rf' mem' a = gE ac sh rf mem a := by
  unfold gE
  rw [h1, h2, h3]
theorem gE_upO {c n k : Nat} {v : Int} (h : sh a = (c, n)) (hc : c ≤ 10) (hk : (gfl c)[k]? = some false) (b : Nat) : va_up (gE ac sh rf mem) a (.inr (c, (gfs (rf a) (mem a) 0 (gfl c)).set k (.int (iI v)))) b = gE ac sh rf (gup mem a k v) b := by
  by_cases hb : b = a
  · subst hb
    rw [va_up_self, gE_o h hc, gfs_setI _ _ _ _ _ _ hk]
    have e : (fun i => if i = 0 + k then v else mem b i) = gup mem b k v b := by
      funext i
      simp [gup]
    rw [e]
  · rw [va_up_ne _ _ hb]
    exact (gE_ne rfl rfl (by funext j; simp [gup, hb])).symm
theorem gE_upR {c n k : Nat} {v : Option Nat} (h : sh a = (c, n)) (hc : c ≤ 10) (hk : (gfl c)[k]? = some true) (b : Nat) : va_up (gE ac sh rf mem) a (.inr (c, (gfs (rf a) (mem a) 0 (gfl c)).set k (va_rf v))) b = gE ac sh (gur rf a k v) mem b := by
  by_cases hb : b = a
  · subst hb
    rw [va_up_self, gE_o h hc, gfs_setR _ _ _ _ _ _ hk]
    have e : (fun i => if i = 0 + k then v else rf b i) = gur rf b k v b := by
      funext i
      simp [gur]
    rw [e]
  · rw [va_up_ne _ _ hb]
    exact (gE_ne rfl (by funext j; simp [gur, hb]) rfl).symm
theorem gE_upI {c n k : Nat} {v : Int} (h : sh a = (c, n)) (h1 : 10 < c) (h2 : c < 14) {w : Int32} (hw : w = iI v) (b : Nat) : va_up (gE ac sh rf mem) a (.inl (ac c, n, .inl (upd (fun k => iI (mem a k)) k w))) b = gE ac sh rf (gup mem a k v) b := by
  subst hw
  by_cases hb : b = a
  · subst hb
    rw [va_up_self, gE_i h h1 h2]
    have e : upd (fun k => iI (mem b k)) k (iI v) = fun j => iI (gup mem b k v b j) := by
      funext i
      by_cases hi : i = k <;> simp [upd, gup, hi]
    rw [e]
  · rw [va_up_ne _ _ hb]
    exact (gE_ne rfl rfl (by funext j; simp [gup, hb])).symm
theorem gE_upL {n k : Nat} {v : Int} (h : sh a = (14, n)) (b : Nat) : va_up (gE ac sh rf mem) a (.inl (ac 14, n, .inr (.inl (vp_updL (fun k => Int64.ofInt (mem a k)) k (Int64.ofInt v))))) b = gE ac sh rf (gup mem a k v) b := by
  by_cases hb : b = a
  · subst hb
    rw [va_up_self, gE_l h]
    have e : vp_updL (fun k => Int64.ofInt (mem b k)) k (Int64.ofInt v) = fun j => Int64.ofInt (gup mem b k v b j) := by
      funext i
      by_cases hi : i = k <;> simp [vp_updL, gup, hi]
    rw [e]
  · rw [va_up_ne _ _ hb]
    exact (gE_ne rfl rfl (by funext j; simp [gup, hb])).symm
theorem gE_upQ {c n k : Nat} {v : Option Nat} (h : sh a = (c, n)) (h1 : 14 < c) (b : Nat) : va_up (gE ac sh rf mem) a (.inl (ac c, n, .inr (.inr (.inr (.inr (va_up (rf a) k v)))))) b = gE ac sh (gur rf a k v) mem b := by
  by_cases hb : b = a
  · subst hb
    rw [va_up_self, gE_q h h1]
    have e : va_up (rf b) k v = gur rf b k v b := by
      funext i
      simp [va_up, gur]
    rw [e]
  · rw [va_up_ne _ _ hb]
    exact (gE_ne rfl (by funext j; simp [gur, hb]) rfl).symm
end GE
