/-! layUp -/
theorem goes_key (g v : Int32) (h1 : -3 ≤ v.toInt) (h2 : v.toInt ≤ 33) : 0 ≤ (if 0 ≤ (if g = 1 then v - 1 else if g = 2 then v / 2 else v) then (if g = 1 then v - 1 else if g = 2 then v / 2 else v) else 0).toInt ∧ (if 0 ≤ (if g = 1 then v - 1 else if g = 2 then v / 2 else v) then (if g = 1 then v - 1 else if g = 2 then v / 2 else v) else 0).toInt ≤ 33 := by
  have e1 := ti_sub v 1
  have e2 := ti_div v (b := 2) (by decide)
  have z1 : (1 : Int32).toInt = 1 := rfl
  have z2 : (2 : Int32).toInt = 2 := rfl
  have z0 : (0 : Int32).toInt = 0 := rfl
  rw [z1] at e1
  rw [z2] at e2
  have h3 : (v / 2).toInt ≤ 33 := by rw [e2]; split <;> omega
  generalize hw : (if g = 1 then v - 1 else if g = 2 then v / 2 else v) = w
  have hw2 : w.toInt ≤ 33 := by
    rw [← hw]
    split
    · omega
    · split
      · exact h3
      · omega
  split
  · rename_i h; rw [ti_le] at h; omega
  · omega
theorem goesS_b {m : am_H} (hV : VM m) (c : Int32) {carry : Int32} (h : 0 ≤ carry.toInt ∧ carry.toInt ≤ 30) : 0 ≤ (goesS m c carry).toInt ∧ (goesS m c carry).toInt ≤ 33 := by
  have hw := hV.wind
  have hn := ti_neg (m.1 1 50)
  have z0 : (0 : Int32).toInt = 0 := rfl
  unfold goesS
  apply goes_key
  · have a0 := ti_add carry 0
    have a1 := ti_add carry (m.1 1 50)
    have a2 := ti_add carry (-m.1 1 50)
    by_cases e : carry < 5
    · rw [if_pos e]; omega
    · have e5 : ¬ carry.toInt < (5 : Int32).toInt := fun q => e ((ti_lt _ _).mpr q)
      have z5 : (5 : Int32).toInt = 5 := rfl
      rw [if_neg e]
      split <;> omega
  · have a0 := ti_add carry 0
    have a1 := ti_add carry (m.1 1 50)
    have a2 := ti_add carry (-m.1 1 50)
    split
    · omega
    · split <;> omega
theorem aim_abs {m : am_H} (hV : VM m) {c carry : Int32} (hc : cellB c = true) (h : 0 ≤ carry.toInt ∧ carry.toInt ≤ 30) : (if 0 ≤ (aimS m c carry - c) then (aimS m c carry - c) else 0 - (aimS m c carry - c)) = goesS m c carry := by
  have h1 := cellB_iff.mp hc
  have h2 := goesS_b hV c h
  have z0 : (0 : Int32).toInt = 0 := rfl
  unfold aimS
  generalize goesS m c carry = g at *
  have a1 := ti_add c g
  have a2 := ti_sub c g
  have a3 := ti_sub (c + g) c
  have a4 := ti_sub (c - g) c
  have a5 := ti_sub 0 (c - g - c)
  have a6 := ti_sub 0 (c + g - c)
  by_cases e : c ≤ m.1 1 49
  · simp only [if_pos e]
    have : 0 ≤ c + g - c := by rw [ti_le]; omega
    rw [if_pos this, ti_eq]; omega
  · simp only [if_neg e]
    by_cases e2 : 0 ≤ c - g - c
    · rw [if_pos e2, ti_eq]; rw [ti_le] at e2; omega
    · rw [if_neg e2, ti_eq]; omega
/-- over the clubs from c on, k of them -/
def cfold {α : Type} (f : Int32 → α → α) : Nat → Int32 → α → α
  | 0, _, a => a
  | k + 1, c, a => cfold f k (c + 1) (f c a)
def layF (m : am_H) (cell : Int32) (c : Int32) (a : Int32 × Int32) : Int32 × Int32 := if wetN m cell c = 0 ∧ a.2 < goesS m cell (caS m c) then (c, goesS m cell (caS m c)) else a
theorem nle_lt {a b : Int32} : ¬ a ≤ b ↔ b < a := by rw [ti_le, ti_lt]; omega
theorem l_Hole_lay {x m : am_H} (hR : RH x m) (hV : VM m) {cell : Int32} (hc : cellB cell = true) : ∀ (k n : Nat) (c b f : Int32), k < n → (k : Int) = (m.1 0 6).toInt - c.toInt → 0 ≤ c.toInt → f_Hole_farthestDry_8_l x n cell b f c = some (cfold (layF m cell) k c (b, f)).1 := by
  intro k
  induction k with
  | zero =>
    intro n c b f hn hk h0
    obtain ⟨n, rfl⟩ : ∃ j, n = j + 1 := ⟨n - 1, by omega⟩
    have e : m.1 0 6 ≤ c := by (simp only [ti_lt, ti_le, ti_eq, ti_add, ti_sub, ti_neg, ti_lt64, ti_le64, ti_eq64, ti_wide, Int32.reduceToInt, Int64.reduceToInt] at * <;> omega)
    show f_Hole_farthestDry_8 (f_Hole_farthestDry_8_l x n) x cell b f c = _
    simp only [f_Hole_farthestDry_64, f_Hole_farthestDry_58, f_Hole_farthestDry_52, f_Hole_farthestDry_49, f_Hole_farthestDry_41, f_Hole_farthestDry_28, f_Hole_farthestDry_25, f_Hole_farthestDry_17, f_Hole_farthestDry_8, f_Hole_farthestDry, hR.2, if_pos e, cfold]
  | succ k ih =>
    intro n c b f hn hk h0
    obtain ⟨n, rfl⟩ : ∃ j, n = j + 1 := ⟨n - 1, by omega⟩
    have hcs := hV.2
    have e : ¬ m.1 0 6 ≤ c := by (simp only [ti_lt, ti_le, ti_eq, ti_add, ti_sub, ti_neg, ti_lt64, ti_le64, ti_eq64, ti_wide, Int32.reduceToInt, Int64.reduceToInt] at * <;> omega)
    have e1 := ti_add c 1
    have hcl : clubB m c = true := clubB_iff.mpr (by omega)
    show f_Hole_farthestDry_8 (f_Hole_farthestDry_8_l x n) x cell b f c = _
    simp only [f_Hole_farthestDry_64, f_Hole_farthestDry_58, f_Hole_farthestDry_52, f_Hole_farthestDry_49, f_Hole_farthestDry_41, f_Hole_farthestDry_28, f_Hole_farthestDry_25, f_Hole_farthestDry_17, f_Hole_farthestDry_8, f_Hole_farthestDry, hR.2, if_neg e, v_Hole_carryOf hR hV hcl, Option.bind_some, v_Hole_aim hR hc, aim_abs hV hc (caS_b hV hcl), v_Hole_wet hR hV hc hcl, cfold]
    have i1 := fun b f => ih n (c + 1) b f (by omega) (by (simp only [ti_lt, ti_le, ti_eq, ti_add, ti_sub, ti_neg, ti_lt64, ti_le64, ti_eq64, ti_wide, Int32.reduceToInt, Int64.reduceToInt] at * <;> omega)) (by (simp only [ti_lt, ti_le, ti_eq, ti_add, ti_sub, ti_neg, ti_lt64, ti_le64, ti_eq64, ti_wide, Int32.reduceToInt, Int64.reduceToInt] at * <;> omega))
    simp only [i1, layF]
    by_cases e2 : goesS m cell (caS m c) ≤ f
    · have e3 : ¬ f < goesS m cell (caS m c) := by rw [ti_lt]; rw [ti_le] at e2; omega
      simp only [e2, e3, if_true, if_false, Bool.false_eq_true, and_false]
    · have e3 : f < goesS m cell (caS m c) := nle_lt.mp e2
      by_cases e4 : wetN m cell c = 0
      · simp only [e2, e3, e4, if_true, if_false, Bool.false_eq_true, and_true]
      · simp only [e2, e3, e4, if_true, if_false, Bool.false_eq_true, and_true]
theorem l_Model_lay {m : am_H} (hV : VM m) {cell : Int32} (hc : cellB cell = true) : ∀ (k n : Nat) (c b f : Int32), k < n → (k : Int) = (m.1 0 6).toInt - c.toInt → 0 ≤ c.toInt → f_Model_layUp_26_l m n cell b f c = some (cfold (layF m cell) k c (b, f)).1 := by
  intro k
  induction k with
  | zero =>
    intro n c b f hn hk h0
    obtain ⟨n, rfl⟩ : ∃ j, n = j + 1 := ⟨n - 1, by omega⟩
    have e : m.1 0 6 ≤ c := by (simp only [ti_lt, ti_le, ti_eq, ti_add, ti_sub, ti_neg, ti_lt64, ti_le64, ti_eq64, ti_wide, Int32.reduceToInt, Int64.reduceToInt] at * <;> omega)
    show f_Model_layUp_26 (f_Model_layUp_26_l m n) m cell b f c = _
    simp only [f_Model_layUp_16, f_Model_layUp_80, f_Model_layUp_74, f_Model_layUp_68, f_Model_layUp_62, f_Model_layUp_59, f_Model_layUp_50, f_Model_layUp_35, f_Model_layUp_26, f_Model_layUp_18, f_Model_layUp_13, f_Model_layUp_8, f_Model_layUp_5, f_Model_layUp, if_pos e, cfold]
  | succ k ih =>
    intro n c b f hn hk h0
    obtain ⟨n, rfl⟩ : ∃ j, n = j + 1 := ⟨n - 1, by omega⟩
    have hcs := hV.2
    have e : ¬ m.1 0 6 ≤ c := by (simp only [ti_lt, ti_le, ti_eq, ti_add, ti_sub, ti_neg, ti_lt64, ti_le64, ti_eq64, ti_wide, Int32.reduceToInt, Int64.reduceToInt] at * <;> omega)
    have e1 := ti_add c 1
    have hcl : clubB m c = true := clubB_iff.mpr (by omega)
    obtain ⟨⟨a1, a2⟩, -, -, -⟩ := at_club hV hcl
    show f_Model_layUp_26 (f_Model_layUp_26_l m n) m cell b f c = _
    simp only [f_Model_layUp_16, f_Model_layUp_80, f_Model_layUp_74, f_Model_layUp_68, f_Model_layUp_62, f_Model_layUp_59, f_Model_layUp_50, f_Model_layUp_35, f_Model_layUp_26, f_Model_layUp_18, f_Model_layUp_13, f_Model_layUp_8, f_Model_layUp_5, f_Model_layUp, if_neg e, a1, a2, if_true, v_Model_lengthOf m hc, Option.bind_some, v_Model_wet hV hc hcl, cfold]
    have i1 := fun b f => ih n (c + 1) b f (by omega) (by (simp only [ti_lt, ti_le, ti_eq, ti_add, ti_sub, ti_neg, ti_lt64, ti_le64, ti_eq64, ti_wide, Int32.reduceToInt, Int64.reduceToInt] at * <;> omega)) (by (simp only [ti_lt, ti_le, ti_eq, ti_add, ti_sub, ti_neg, ti_lt64, ti_le64, ti_eq64, ti_wide, Int32.reduceToInt, Int64.reduceToInt] at * <;> omega))
    simp only [i1, layF]
    by_cases e2 : goesS m cell (caS m c) ≤ f
    · have e3 : ¬ f < goesS m cell (caS m c) := by rw [ti_lt]; rw [ti_le] at e2; omega
      simp only [e2, e3, if_true, if_false, Bool.false_eq_true, and_false]
      split <;> rfl
    · have e3 : f < goesS m cell (caS m c) := nle_lt.mp e2
      by_cases e4 : wetN m cell c = 0
      · simp only [e2, e3, e4, if_true, if_false, Bool.false_eq_true, and_true]
      · simp only [e2, e3, e4, if_true, if_false, Bool.false_eq_true, and_true]
theorem E_layUp {x m : am_H} (hR : RH x m) (hV : VM m) (cell : Int32) : ∃ r, f_Club_layUp x cell = some r ∧ f_Model_layUp m cell = some r := by
  simp only [f_Club_layUp_22, f_Club_layUp_19, f_Club_layUp_11, f_Club_layUp_8, f_Club_layUp, f_Model_layUp_16, f_Model_layUp_80, f_Model_layUp_74, f_Model_layUp_68, f_Model_layUp_62, f_Model_layUp_59, f_Model_layUp_50, f_Model_layUp_35, f_Model_layUp_26, f_Model_layUp_18, f_Model_layUp_13, f_Model_layUp_8, f_Model_layUp_5, f_Model_layUp, v_Hole_isOffGreen hR, v_Model_isCell32, Option.bind_some]
  cases h1 : cellB cell with
  | false => exact ⟨_, rfl, rfl⟩
  | true =>
    simp only [v_Model_isGreen m h1, Bool.true_and, Option.bind_some]
    cases h2 : grB m cell with
    | true => exact ⟨_, rfl, rfl⟩
    | false =>
      have hcs := hV.2
      have z0 : (0 : Int32).toInt = 0 := rfl
      have a := l_Hole_lay hR hV h1 (m.1 0 6).toInt.toNat am_fu 0 (-2) (-1) (by unfold am_fu; omega) (by omega) (by decide)
      have b := l_Model_lay hV h1 (m.1 0 6).toInt.toNat am_fu 0 (-2) (-1) (by unfold am_fu; omega) (by omega) (by decide)
      refine ⟨(cfold (layF m cell) (m.1 0 6).toInt.toNat 0 (-2, -1)).1, ?_, ?_⟩
      · simp only [Bool.not_false, if_true, f_Hole_farthestDry_64, f_Hole_farthestDry_58, f_Hole_farthestDry_52, f_Hole_farthestDry_49, f_Hole_farthestDry_41, f_Hole_farthestDry_28, f_Hole_farthestDry_25, f_Hole_farthestDry_17, f_Hole_farthestDry_8, f_Hole_farthestDry, a, Option.bind_some]
      · simp only [if_true, if_false, Bool.false_eq_true, b]
