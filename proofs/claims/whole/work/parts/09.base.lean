/-! numbers -/
theorem ti_lt (a b : Int32) : a < b ↔ a.toInt < b.toInt := Int32.lt_iff_toInt_lt
theorem ti_le (a b : Int32) : a ≤ b ↔ a.toInt ≤ b.toInt := Int32.le_iff_toInt_le
theorem ti_eq (a b : Int32) : a = b ↔ a.toInt = b.toInt := Int32.toInt_inj.symm
theorem ti_lt64 (a b : Int64) : a < b ↔ a.toInt < b.toInt := Int64.lt_iff_toInt_lt
theorem ti_le64 (a b : Int64) : a ≤ b ↔ a.toInt ≤ b.toInt := Int64.le_iff_toInt_le
theorem ti_eq64 (a b : Int64) : a = b ↔ a.toInt = b.toInt := Int64.toInt_inj.symm
theorem ti_wide (a : Int32) : a.toInt64.toInt = a.toInt := Int32.toInt_toInt64 a
theorem ti_bm (x : Int) : x.bmod (2 ^ 32) = (x + 2147483648) % 4294967296 - 2147483648 := by
  rw [Int.bmod_def]
  split <;> omega
theorem ti_add (a b : Int32) : (a + b).toInt = (a.toInt + b.toInt + 2147483648) % 4294967296 - 2147483648 := by rw [Int32.toInt_add, ti_bm]
theorem ti_sub (a b : Int32) : (a - b).toInt = (a.toInt - b.toInt + 2147483648) % 4294967296 - 2147483648 := by rw [Int32.toInt_sub, ti_bm]
theorem ti_neg (a : Int32) : (-a).toInt = (-a.toInt + 2147483648) % 4294967296 - 2147483648 := by rw [Int32.toInt_neg, ti_bm]
theorem ti_mul (a b : Int32) : (a * b).toInt = (a.toInt * b.toInt + 2147483648) % 4294967296 - 2147483648 := by rw [Int32.toInt_mul, ti_bm]
theorem ti_lo (a : Int32) : -2147483648 ≤ a.toInt := Int32.le_toInt a
theorem ti_hi (a : Int32) : a.toInt < 2147483648 := Int32.toInt_lt a
theorem ti_nat (a : Int32) : a.toNatClampNeg = a.toInt.toNat := rfl
/-- a quotient by a positive number -/
theorem ti_div (a : Int32) {b : Int32} (hb : 0 < b.toInt) : (a / b).toInt = if 0 ≤ a.toInt then a.toInt / b.toInt else -((-a.toInt) / b.toInt) := by
  rw [Int32.toInt_div_of_ne_right _ _ (fun e => by rw [e] at hb; revert hb; decide)]
  split
  · rename_i h
    exact Int.tdiv_eq_ediv_of_nonneg h
  · rename_i h
    have h2 : 0 ≤ -a.toInt := by omega
    have h3 := Int.neg_tdiv (a := a.toInt) (b := b.toInt)
    rw [Int.tdiv_eq_ediv_of_nonneg h2] at h3
    omega
theorem ok_iff {i : Int32} {n : Nat} : am_ok i n = true ↔ 0 ≤ i.toInt ∧ i.toInt < n := by
  unfold am_ok
  rw [decide_eq_true_iff, ti_lt, ti_nat]
  have : (0 : Int32).toInt = 0 := rfl
  rw [this]
  omega
theorem ok_of {i : Int32} {n : Nat} (h : 0 ≤ i.toInt ∧ i.toInt < n) : am_ok i n = true := ok_iff.mpr h
/-- a number written as a place -/
theorem ti_mk {i : Int32} (h : 0 ≤ i.toInt) : (i.toNatClampNeg : Int) = i.toInt := by rw [ti_nat]; omega
theorem nl_0 : (0 : Int32).toNatClampNeg = 0 := rfl
theorem nl_1 : (1 : Int32).toNatClampNeg = 1 := rfl
theorem nl_2 : (2 : Int32).toNatClampNeg = 2 := rfl
theorem nl_3 : (3 : Int32).toNatClampNeg = 3 := rfl
theorem nl_4 : (4 : Int32).toNatClampNeg = 4 := rfl
theorem nl_5 : (5 : Int32).toNatClampNeg = 5 := rfl
theorem nl_6 : (6 : Int32).toNatClampNeg = 6 := rfl
theorem nl_39 : (39 : Int32).toNatClampNeg = 39 := rfl
theorem nl_49 : (49 : Int32).toNatClampNeg = 49 := rfl
theorem nl_50 : (50 : Int32).toNatClampNeg = 50 := rfl
theorem nl_51 : (51 : Int32).toNatClampNeg = 51 := rfl
theorem nl_52 : (52 : Int32).toNatClampNeg = 52 := rfl
theorem nl_53 : (53 : Int32).toNatClampNeg = 53 := rfl
theorem nl_93 : (93 : Int32).toNatClampNeg = 93 := rfl
theorem nl_130 : (130 : Int32).toNatClampNeg = 130 := rfl
/-! the two heaps' cells under writes -/
theorem hI1 (h : am_H) (k i : Nat) (v : Int32) (a b : Nat) : (am_pI h k i v).1 a b = if a = k ∧ b = i then v else h.1 a b := rfl
theorem hI2 (h : am_H) (k i : Nat) (v : Int32) : (am_pI h k i v).2 = h.2 := rfl
theorem hL1 (h : am_H) (k i : Nat) (v : Int64) : (am_pL h k i v).1 = h.1 := rfl
theorem hL2 (h : am_H) (k i : Nat) (v : Int64) (a b : Nat) : (am_pL h k i v).2 a b = if a = k ∧ b = i then v else h.2 a b := rfl
theorem hcI1 (h : am_H) (k0 k1 sp dp n : Nat) (a b : Nat) : (am_cI h k0 k1 sp dp n).1 a b = if a = k1 then (if dp ≤ b ∧ b < dp + n then h.1 k0 (sp + (b - dp)) else h.1 k1 b) else h.1 a b := by
  simp only [am_cI, va_cpy]
  by_cases e : a = k1
  · subst e; simp [va_cpy]
  · simp [e]
theorem hcI2 (h : am_H) (k0 k1 sp dp n : Nat) : (am_cI h k0 k1 sp dp n).2 = h.2 := rfl
theorem hcL2 (h : am_H) (k0 k1 sp dp n : Nat) (a b : Nat) : (am_cL h k0 k1 sp dp n).2 a b = if a = k1 then (if dp ≤ b ∧ b < dp + n then h.2 k0 (sp + (b - dp)) else h.2 k1 b) else h.2 a b := by
  simp only [am_cL, va_cpy]
  by_cases e : a = k1
  · subst e; simp [va_cpy]
  · simp [e]
theorem hcL1 (h : am_H) (k0 k1 sp dp n : Nat) : (am_cL h k0 k1 sp dp n).1 = h.1 := rfl
/-- nothing but the places of ks was written -/
def sx (ks : List Nat) (h h2 : am_H) : Prop := ∀ k, k ∉ ks → h2.1 k = h.1 k ∧ h2.2 k = h.2 k
theorem sx.rf (ks : List Nat) (h : am_H) : sx ks h h := fun _ _ => ⟨rfl, rfl⟩
theorem sx.tr {ks : List Nat} {h h2 h3 : am_H} (a : sx ks h h2) (b : sx ks h2 h3) : sx ks h h3 := fun k hk => ⟨(b k hk).1.trans (a k hk).1, (b k hk).2.trans (a k hk).2⟩
theorem sx.mono {ks ls : List Nat} {h h2 : am_H} (a : sx ks h h2) (hs : ∀ k ∈ ks, k ∈ ls) : sx ls h h2 := fun k hk => a k (fun q => hk (hs k q))
theorem sx.pI {ks : List Nat} (h : am_H) (k i : Nat) (v : Int32) (hk : k ∈ ks) : sx ks h (am_pI h k i v) := by
  intro j hj
  have : j ≠ k := fun e => hj (e ▸ hk)
  refine ⟨?_, rfl⟩
  funext b
  simp [hI1, this]
theorem sx.pL {ks : List Nat} (h : am_H) (k i : Nat) (v : Int64) (hk : k ∈ ks) : sx ks h (am_pL h k i v) := by
  intro j hj
  have : j ≠ k := fun e => hj (e ▸ hk)
  refine ⟨rfl, ?_⟩
  funext b
  simp [hL2, this]
theorem sx.cI {ks : List Nat} (h : am_H) (k0 k1 sp dp n : Nat) (hk : k1 ∈ ks) : sx ks h (am_cI h k0 k1 sp dp n) := by
  intro j hj
  have : j ≠ k1 := fun e => hj (e ▸ hk)
  refine ⟨?_, rfl⟩
  funext b
  simp [hcI1, this]
theorem sx.cL {ks : List Nat} (h : am_H) (k0 k1 sp dp n : Nat) (hk : k1 ∈ ks) : sx ks h (am_cL h k0 k1 sp dp n) := by
  intro j hj
  have : j ≠ k1 := fun e => hj (e ▸ hk)
  refine ⟨rfl, ?_⟩
  funext b
  simp [hcL2, this]
/-- of the model's own object nothing but the slots ss was written -/
def s0 (ss : List Nat) (h h2 : am_H) : Prop := (∀ i, i ∉ ss → h2.1 0 i = h.1 0 i) ∧ h2.2 0 = h.2 0
