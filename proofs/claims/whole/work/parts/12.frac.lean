/-! fractions in lowest terms -/
theorem ti_bm64 (x : Int) : x.bmod (2 ^ 64) = (x + 9223372036854775808) % 18446744073709551616 - 9223372036854775808 := by
  rw [Int.bmod_def]
  split <;> omega
theorem tl_add (a b : Int64) : (a + b).toInt = (a.toInt + b.toInt + 9223372036854775808) % 18446744073709551616 - 9223372036854775808 := by rw [Int64.toInt_add, ti_bm64]
theorem tl_sub (a b : Int64) : (a - b).toInt = (a.toInt - b.toInt + 9223372036854775808) % 18446744073709551616 - 9223372036854775808 := by rw [Int64.toInt_sub, ti_bm64]
theorem tl_neg (a : Int64) : (-a).toInt = (-a.toInt + 9223372036854775808) % 18446744073709551616 - 9223372036854775808 := by rw [Int64.toInt_neg, ti_bm64]
theorem tl_mul (a b : Int64) : (a * b).toInt = (a.toInt * b.toInt + 9223372036854775808) % 18446744073709551616 - 9223372036854775808 := by rw [Int64.toInt_mul, ti_bm64]
theorem tl_lo (a : Int64) : -9223372036854775808 ≤ a.toInt := Int64.le_toInt a
theorem tl_hi (a : Int64) : a.toInt < 9223372036854775808 := Int64.toInt_lt a
theorem tl_div {a b : Int64} (ha : 0 ≤ a.toInt) (hb : 0 < b.toInt) : (a / b).toInt = a.toInt / b.toInt := by
  rw [Int64.toInt_div_of_ne_right _ _ (fun e => by rw [e] at hb; revert hb; decide)]
  exact Int.tdiv_eq_ediv_of_nonneg ha
theorem tl_rem {a b : Int64} (ha : 0 ≤ a.toInt) (hb : 0 < b.toInt) : (a - a / b * b).toInt = a.toInt % b.toInt := by
  rw [tl_sub, tl_mul, tl_div ha hb]
  have h1 := tl_hi a
  have h2 := Int.emod_add_mul_ediv a.toInt b.toInt
  have h3 : 0 ≤ a.toInt / b.toInt * b.toInt := Int.mul_nonneg (Int.ediv_nonneg ha (by omega)) (by omega)
  have h4 := Int.emod_nonneg a.toInt (b := b.toInt) (by omega)
  have h5 : b.toInt * (a.toInt / b.toInt) = a.toInt / b.toInt * b.toInt := Int.mul_comm _ _
  rw [h5] at h2
  generalize a.toInt / b.toInt * b.toInt = z at *
  omega
/-- the greatest shared divisor -/
def gcS (a b : Int64) : Nat := Nat.gcd a.toInt.toNat b.toInt.toNat
theorem gcS_step {a b : Int64} (ha : 0 ≤ a.toInt) (hb : 0 < b.toInt) : gcS b (a - a / b * b) = gcS a b := by
  unfold gcS
  rw [tl_rem ha hb]
  have e : (a.toInt % b.toInt).toNat = a.toInt.toNat % b.toInt.toNat := by
    rw [Int.toNat_emod ha (by omega)]
  rw [e, Nat.gcd_comm, ← Nat.gcd_rec, Nat.gcd_comm]
theorem gcS_zero {a b : Int64} (ha : 0 ≤ a.toInt) (hb : b = 0) : (gcS a b : Int) = a.toInt := by
  unfold gcS
  rw [hb]
  have : (0 : Int64).toInt.toNat = 0 := rfl
  rw [this, Nat.gcd_zero_right]
  omega
theorem gc_half {b r : Int} (h1 : 0 < r) (h2 : r < b) : 2 * (b % r) < b := by
  have h3 := Int.emod_lt_of_pos b h1
  have h4 := Int.emod_nonneg b (b := r) (by omega)
  have h5 := Int.emod_add_mul_ediv b r
  have h6 : 1 ≤ b / r := (Int.le_ediv_iff_mul_le h1).mpr (by omega)
  have h7 : r * 1 ≤ r * (b / r) := Int.mul_le_mul_of_nonneg_left h6 (by omega)
  omega
theorem g_Model_common : ∀ (k n : Nat) (a b : Int64), 0 ≤ a.toInt → 0 ≤ b.toInt → b.toInt < 2 ^ k → 2 * k + 1 ≤ n → ∃ g, f_Model_commonOf_17_l n a b = some g ∧ g.toInt = gcS a b := by
  intro k
  induction k with
  | zero =>
    intro n a b ha hb hk hn
    obtain ⟨n, rfl⟩ : ∃ j, n = j + 1 := ⟨n - 1, by omega⟩
    have e : b = 0 := by rw [ti_eq64]; have : (0 : Int64).toInt = 0 := rfl; omega
    refine ⟨a, ?_, (gcS_zero ha e).symm⟩
    show f_Model_commonOf_17 (f_Model_commonOf_17_l n) a b = _
    simp only [f_Model_commonOf_42, f_Model_commonOf_24, f_Model_commonOf_17, f_Model_commonOf_12, f_Model_commonOf_11, f_Model_commonOf_6, f_Model_commonOf, if_pos e]
  | succ k ih =>
    intro n a b ha hb hk hn
    obtain ⟨n, rfl⟩ : ∃ j, n = j + 1 := ⟨n - 1, by omega⟩
    have z0 : (0 : Int64).toInt = 0 := rfl
    by_cases e : b = 0
    · refine ⟨a, ?_, (gcS_zero ha e).symm⟩
      show f_Model_commonOf_17 (f_Model_commonOf_17_l n) a b = _
      simp only [f_Model_commonOf_42, f_Model_commonOf_24, f_Model_commonOf_17, f_Model_commonOf_12, f_Model_commonOf_11, f_Model_commonOf_6, f_Model_commonOf, if_pos e]
    · have hb0 : 0 < b.toInt := by
        have : ¬ b.toInt = (0 : Int64).toInt := fun q => e ((ti_eq64 _ _).mpr q)
        omega
      have s1 : f_Model_commonOf_17_l (n + 1) a b = f_Model_commonOf_17_l n b (a - a / b * b) := by
        show f_Model_commonOf_17 (f_Model_commonOf_17_l n) a b = _
        simp only [f_Model_commonOf_42, f_Model_commonOf_24, f_Model_commonOf_17, f_Model_commonOf_12, f_Model_commonOf_11, f_Model_commonOf_6, f_Model_commonOf, if_neg e, if_pos e]
      rw [s1, ← gcS_step ha hb0]
      have hr := tl_rem ha hb0
      have hr1 := Int.emod_nonneg a.toInt (b := b.toInt) (by omega)
      have hr2 := Int.emod_lt_of_pos a.toInt hb0
      generalize a - a / b * b = r at *
      obtain ⟨n, rfl⟩ : ∃ j, n = j + 1 := ⟨n - 1, by omega⟩
      by_cases e2 : r = 0
      · refine ⟨b, ?_, (gcS_zero hb e2).symm⟩
        show f_Model_commonOf_17 (f_Model_commonOf_17_l n) b r = _
        simp only [f_Model_commonOf_42, f_Model_commonOf_24, f_Model_commonOf_17, f_Model_commonOf_12, f_Model_commonOf_11, f_Model_commonOf_6, f_Model_commonOf, if_pos e2]
      · have hr0 : 0 < r.toInt := by
          have : ¬ r.toInt = (0 : Int64).toInt := fun q => e2 ((ti_eq64 _ _).mpr q)
          omega
        have s2 : f_Model_commonOf_17_l (n + 1) b r = f_Model_commonOf_17_l n r (b - b / r * r) := by
          show f_Model_commonOf_17 (f_Model_commonOf_17_l n) b r = _
          simp only [f_Model_commonOf_42, f_Model_commonOf_24, f_Model_commonOf_17, f_Model_commonOf_12, f_Model_commonOf_11, f_Model_commonOf_6, f_Model_commonOf, if_neg e2, if_pos e2]
        rw [s2, ← gcS_step hb hr0]
        have hq := tl_rem hb hr0
        have hh := gc_half hr0 (show r.toInt < b.toInt by omega)
        have hq1 := Int.emod_nonneg b.toInt (b := r.toInt) (by omega)
        refine ih n r _ (by omega) (by omega) ?_ (by omega)
        rw [hq]
        have : (2 : Int) ^ (k + 1) = 2 ^ k * 2 := Int.pow_succ 2 k
        omega
theorem g_Club_shared : ∀ (k n : Nat) (a b : Int64) (s : Int32), 0 ≤ a.toInt → 0 ≤ b.toInt → b.toInt < 2 ^ k → 2 * k + 1 ≤ n → 0 ≤ s.toInt → s.toInt + 2 * k + 1 ≤ 200 → ∃ g, f_Club_sharedDivisor_3_l n a b s = some g ∧ g.toInt = gcS a b := by
  intro k
  induction k with
  | zero =>
    intro n a b s ha hb hk hn hs0 hs
    obtain ⟨n, rfl⟩ : ∃ j, n = j + 1 := ⟨n - 1, by omega⟩
    have e : b = 0 := by rw [ti_eq64]; have : (0 : Int64).toInt = 0 := rfl; omega
    have hs2 : ¬ 200 ≤ s := by (simp only [ti_lt, ti_le, ti_eq, ti_add, ti_sub, ti_neg, ti_lt64, ti_le64, ti_eq64, ti_wide, Int32.reduceToInt, Int64.reduceToInt] at * <;> omega)
    refine ⟨a, ?_, (gcS_zero ha e).symm⟩
    show f_Club_sharedDivisor_3 (f_Club_sharedDivisor_3_l n) a b s = _
    simp only [f_Club_sharedDivisor_33, f_Club_sharedDivisor_17, f_Club_sharedDivisor_11, f_Club_sharedDivisor_3, f_Club_sharedDivisor, if_neg hs2, if_pos e]
  | succ k ih =>
    intro n a b s ha hb hk hn hs0 hs
    obtain ⟨n, rfl⟩ : ∃ j, n = j + 1 := ⟨n - 1, by omega⟩
    have z0 : (0 : Int64).toInt = 0 := rfl
    have hs2 : ¬ 200 ≤ s := by (simp only [ti_lt, ti_le, ti_eq, ti_add, ti_sub, ti_neg, ti_lt64, ti_le64, ti_eq64, ti_wide, Int32.reduceToInt, Int64.reduceToInt] at * <;> omega)
    by_cases e : b = 0
    · refine ⟨a, ?_, (gcS_zero ha e).symm⟩
      show f_Club_sharedDivisor_3 (f_Club_sharedDivisor_3_l n) a b s = _
      simp only [f_Club_sharedDivisor_33, f_Club_sharedDivisor_17, f_Club_sharedDivisor_11, f_Club_sharedDivisor_3, f_Club_sharedDivisor, if_neg hs2, if_pos e]
    · have hb0 : 0 < b.toInt := by
        have : ¬ b.toInt = (0 : Int64).toInt := fun q => e ((ti_eq64 _ _).mpr q)
        omega
      have s1 : f_Club_sharedDivisor_3_l (n + 1) a b s = f_Club_sharedDivisor_3_l n b (a - a / b * b) (s + 1) := by
        show f_Club_sharedDivisor_3 (f_Club_sharedDivisor_3_l n) a b s = _
        simp only [f_Club_sharedDivisor_33, f_Club_sharedDivisor_17, f_Club_sharedDivisor_11, f_Club_sharedDivisor_3, f_Club_sharedDivisor, if_neg hs2, if_neg e, if_pos e]
      rw [s1, ← gcS_step ha hb0]
      have hr := tl_rem ha hb0
      have hr1 := Int.emod_nonneg a.toInt (b := b.toInt) (by omega)
      have hr2 := Int.emod_lt_of_pos a.toInt hb0
      generalize a - a / b * b = r at *
      obtain ⟨n, rfl⟩ : ∃ j, n = j + 1 := ⟨n - 1, by omega⟩
      have t1 := ti_add s 1
      have z1 : (1 : Int32).toInt = 1 := rfl
      rw [z1] at t1
      have t2 : (s + 1).toInt = s.toInt + 1 := by omega
      generalize s + 1 = sv at *
      have hs3 : ¬ 200 ≤ sv := by (simp only [ti_lt, ti_le, ti_eq, ti_add, ti_sub, ti_neg, ti_lt64, ti_le64, ti_eq64, ti_wide, Int32.reduceToInt, Int64.reduceToInt] at * <;> omega)
      by_cases e2 : r = 0
      · refine ⟨b, ?_, (gcS_zero hb e2).symm⟩
        show f_Club_sharedDivisor_3 (f_Club_sharedDivisor_3_l n) b r sv = _
        simp only [f_Club_sharedDivisor_33, f_Club_sharedDivisor_17, f_Club_sharedDivisor_11, f_Club_sharedDivisor_3, f_Club_sharedDivisor, if_neg hs3, if_pos e2]
      · have hr0 : 0 < r.toInt := by
          have : ¬ r.toInt = (0 : Int64).toInt := fun q => e2 ((ti_eq64 _ _).mpr q)
          omega
        have s2 : f_Club_sharedDivisor_3_l (n + 1) b r sv = f_Club_sharedDivisor_3_l n r (b - b / r * r) (sv + 1) := by
          show f_Club_sharedDivisor_3 (f_Club_sharedDivisor_3_l n) b r sv = _
          simp only [f_Club_sharedDivisor_33, f_Club_sharedDivisor_17, f_Club_sharedDivisor_11, f_Club_sharedDivisor_3, f_Club_sharedDivisor, if_neg hs3, if_neg e2, if_pos e2]
        rw [s2, ← gcS_step hb hr0]
        have hq := tl_rem hb hr0
        have hh := gc_half hr0 (show r.toInt < b.toInt by omega)
        have hq1 := Int.emod_nonneg b.toInt (b := r.toInt) (by omega)
        have t3 := ti_add sv 1
        rw [z1] at t3
        refine ih n r _ (sv + 1) (by omega) (by omega) ?_ (by omega) (by omega) (by omega)
        rw [hq]
        have : (2 : Int) ^ (k + 1) = 2 ^ k * 2 := Int.pow_succ 2 k
        omega
/-- both sides' fractions are alike, and there is one -/
theorem p_partOf {a b : Int64} {part : Int32} (ha : -2 ^ 62 < a.toInt ∧ a.toInt < 2 ^ 62) (hb : 0 < b.toInt ∧ b.toInt < 2 ^ 62) (hp : part = 0 ∨ part = 1) : ∃ r, f_Club_partOf a b part = some r ∧ f_Model_partOf a b part = some r := by
  have z0 : (0 : Int64).toInt = 0 := rfl
  have hn := tl_neg a
  have hA : 0 ≤ (if 0 < a then a else -a).toInt := by
    split
    · rename_i h; rw [ti_lt64] at h; omega
    · rename_i h; rw [ti_lt64] at h; omega
  obtain ⟨g, hg1, hg2⟩ := g_Club_shared 62 am_fu (if 0 < a then a else -a) b 0 hA (by omega) hb.2 (by unfold am_fu; omega) (by decide) (by decide)
  have hgp : 0 < g.toInt := by
    rw [hg2]
    have : 0 < gcS (if 0 < a then a else -a) b := Nat.gcd_pos_of_pos_right _ (by omega)
    omega
  have hg0 : 0 < g := by rw [ti_lt64]; omega
  have hgn : ¬ g = 0 := by rw [ti_eq64]; omega
  have hC : f_Club_partOf a b part = some (if part = 0 then a / g else b / g) := by
    simp only [f_Club_partOf_33, f_Club_partOf_26, f_Club_partOf_21, f_Club_partOf_17, f_Club_partOf_8, f_Club_partOf]
    have : f_Club_sharedDivisor (if 0 < a then a else -a) b = some g := hg1
    rw [this]
    simp only [Option.bind_some, if_pos hg0, if_pos hgn]
    split <;> rfl
  by_cases e : a = 0
  · have hg3 : g = b := by
      rw [ti_eq64, hg2]
      have : (if 0 < a then a else -a) = 0 := by rw [e]; decide
      rw [this]
      unfold gcS
      have : (0 : Int64).toInt.toNat = 0 := rfl
      rw [this, Nat.gcd_zero_left]
      omega
    refine ⟨_, hC, ?_⟩
    simp only [f_Model_partOf_29, f_Model_partOf_22, f_Model_partOf_15, f_Model_partOf_10, f_Model_partOf_6, f_Model_partOf, if_pos e]
    congr 1
    rcases hp with rfl | rfl
    · rw [if_pos rfl, e, ti_eq64, tl_div (by decide) hgp]
      simp
    · rw [if_neg (by decide), hg3, ti_eq64, tl_div (by omega) (by omega), Int.ediv_self (by omega)]
      rfl
  · have hM : f_Model_commonOf a b = some g := by
      have hneg : (if 0 < a then a else -a) = (if 0 ≤ a then a else -a) := by
        by_cases h1 : 0 < a
        · have : 0 ≤ a := by rw [ti_le64]; rw [ti_lt64] at h1; omega
          rw [if_pos h1, if_pos this]
        · have : ¬ 0 ≤ a := by
            rw [ti_le64]; rw [ti_lt64] at h1
            have : ¬ a.toInt = (0 : Int64).toInt := fun q => e ((ti_eq64 _ _).mpr q)
            omega
          rw [if_neg h1, if_neg this]
      rw [hneg] at hA hg2
      obtain ⟨g2, k1, k2⟩ := g_Model_common 62 am_fu (if 0 ≤ a then a else -a) b hA (by omega) hb.2 (by unfold am_fu; omega)
      have : g2 = g := by rw [ti_eq64, k2, hg2]
      rw [this] at k1
      rw [← k1]
      simp only [f_Model_commonOf_42, f_Model_commonOf_24, f_Model_commonOf_17, f_Model_commonOf_12, f_Model_commonOf_11, f_Model_commonOf_6, f_Model_commonOf]
      split <;> rfl
    refine ⟨_, hC, ?_⟩
    simp only [f_Model_partOf_29, f_Model_partOf_22, f_Model_partOf_15, f_Model_partOf_10, f_Model_partOf_6, f_Model_partOf, if_neg e, hM, Option.bind_some, if_pos hgn]
    split <;> rfl
