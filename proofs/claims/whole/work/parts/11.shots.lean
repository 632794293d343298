/-! where a shot goes -/
def goesS (m : am_H) (cell carry : Int32) : Int32 :=
  let v := carry + (if carry < 5 then 0 else if cell ≤ m.1 1 49 then m.1 1 50 else -m.1 1 50)
  let w := if m.1 1 cell.toNatClampNeg = 1 then v - 1 else if m.1 1 cell.toNatClampNeg = 2 then v / 2 else v
  if 0 ≤ w then w else 0
def aimS (m : am_H) (cell carry : Int32) : Int32 := if cell ≤ m.1 1 49 then cell + goesS m cell carry else cell - goesS m cell carry
def heldS (x : Int32) : Int32 := if 0 ≤ x then (if x < 31 then x else 30) else 0
def downS (m : am_H) (cell carry s : Int32) : Int32 := heldS (aimS m cell carry + s)
theorem heldS_cell (x : Int32) : cellB (heldS x) = true := by
  rw [cellB_iff, heldS]
  split
  · split
    · rename_i h1 h2
      simp only [ti_lt, ti_le, ti_eq, ti_add, ti_sub, ti_neg, ti_lt64, ti_le64, ti_eq64, ti_wide, Int32.reduceToInt, Int64.reduceToInt] at h1 h2
      omega
    · decide
  · decide
theorem v_Hole_held (x : Int32) : f_Hole_held x = heldS x := by
  simp only [f_Hole_held_19, f_Hole_held_14, f_Hole_held_8, f_Hole_held_4, f_Hole_held, heldS]
theorem i32_m1 (x : Int32) : x + (-1) = x - 1 := (Int32.sub_eq_add_neg x 1).symm
theorem i32_21 : ¬ (2 : Int32) = 1 := by decide
theorem v_Hole_aim {x m : am_H} (hR : RH x m) {c : Int32} (hc : cellB c = true) (carry : Int32) : f_Hole_aim x c carry = some (aimS m c carry) := by
  have h1 := cellB_iff.mp hc
  have h2 := cellB_nat hc
  have n1 : ¬ c < 0 := by (simp only [ti_lt, ti_le, ti_eq, ti_add, ti_sub, ti_neg, ti_lt64, ti_le64, ti_eq64, ti_wide, Int32.reduceToInt, Int64.reduceToInt] at * <;> omega)
  have n2 : ¬ 31 ≤ c := by (simp only [ti_lt, ti_le, ti_eq, ti_add, ti_sub, ti_neg, ti_lt64, ti_le64, ti_eq64, ti_wide, Int32.reduceToInt, Int64.reduceToInt] at * <;> omega)
  simp only [f_Hole_aim_99, f_Hole_aim_92, f_Hole_aim_84, f_Hole_aim_81, f_Hole_aim_76, f_Hole_aim_70, f_Hole_aim_65, f_Hole_aim_59, f_Hole_aim_54, f_Hole_aim_51, f_Hole_aim_47, f_Hole_aim_39, f_Hole_aim_29, f_Hole_aim_20, f_Hole_aim_19, f_Hole_aim_10, f_Hole_aim_4, f_Hole_aim, hR.pin, hR.wind, hR.g h2, ok_of h1, aimS, goesS, if_neg n1, if_neg n2, if_true]
  by_cases e1 : carry < 5 <;> by_cases e2 : c ≤ m.1 1 49 <;> by_cases e3 : m.1 1 c.toNatClampNeg = 1 <;> by_cases e4 : m.1 1 c.toNatClampNeg = 2 <;>
    simp only [e1, e2, e3, e4, if_true, if_false, Bool.false_eq_true, Int32.add_zero, i32_m1, i32_21] <;> (try (split <;> first | rfl | simp only [Int32.add_zero, Int32.sub_zero]))
theorem v_Model_lengthOf (m : am_H) {c : Int32} (hc : cellB c = true) (carry : Int32) : f_Model_lengthOf m c carry = some (goesS m c carry) := by
  have h1 := cellB_iff.mp hc
  have h2 : am_ok c 54 = true := ok_of (by omega)
  have z1 : ¬ (1 : Int32) = 0 := by decide
  simp only [f_Model_lengthOf_103, f_Model_lengthOf_99, f_Model_lengthOf_92, f_Model_lengthOf_90, f_Model_lengthOf_83, f_Model_lengthOf_73, f_Model_lengthOf_66, f_Model_lengthOf_48, f_Model_lengthOf_41, f_Model_lengthOf_30, f_Model_lengthOf_26, f_Model_lengthOf_22, f_Model_lengthOf_16, f_Model_lengthOf_15, f_Model_lengthOf_11, f_Model_lengthOf, nl_0, nl_1, nl_2, nl_3, nl_4, nl_5, nl_6, nl_39, nl_49, nl_50, nl_51, nl_52, nl_53, nl_93, nl_130, h2, goesS, if_true, if_neg z1]
  by_cases e1 : carry < 5
  · have e1' : ¬ 5 ≤ carry := by (simp only [ti_lt, ti_le, ti_eq, ti_add, ti_sub, ti_neg, ti_lt64, ti_le64, ti_eq64, ti_wide, Int32.reduceToInt, Int64.reduceToInt] at * <;> omega)
    by_cases e2 : c ≤ m.1 1 49 <;> by_cases e3 : m.1 1 c.toNatClampNeg = 1 <;> by_cases e4 : m.1 1 c.toNatClampNeg = 2 <;>
      simp only [e1, e1', e2, e3, e4, if_true, if_false, Bool.false_eq_true, Int32.add_zero, i32_21] <;> (try (split <;> rfl))
  · have e1' : 5 ≤ carry := by (simp only [ti_lt, ti_le, ti_eq, ti_add, ti_sub, ti_neg, ti_lt64, ti_le64, ti_eq64, ti_wide, Int32.reduceToInt, Int64.reduceToInt] at * <;> omega)
    by_cases e2 : c ≤ m.1 1 49 <;> by_cases e3 : m.1 1 c.toNatClampNeg = 1 <;> by_cases e4 : m.1 1 c.toNatClampNeg = 2 <;>
      simp only [e1, e1', e2, e3, e4, if_true, if_false, Bool.false_eq_true, i32_21] <;> (try (split <;> rfl))
theorem v_Model_downOf (m : am_H) {c : Int32} (hc : cellB c = true) (carry s : Int32) : f_Model_downOf m c carry s = some (downS m c carry s) := by
  simp only [f_Model_downOf_55, f_Model_downOf_50, f_Model_downOf_43, f_Model_downOf_39, f_Model_downOf_30, f_Model_downOf_26, f_Model_downOf_19, f_Model_downOf_6, f_Model_downOf, v_Model_lengthOf m hc, Option.bind_some, nl_0, nl_1, nl_2, nl_3, nl_4, nl_5, nl_6, nl_39, nl_49, nl_50, nl_51, nl_52, nl_53, nl_93, nl_130, downS, aimS, heldS]
  by_cases e2 : c ≤ m.1 1 49
  · simp only [e2, if_true]
    split
    · split
      · rename_i a b
        rw [if_pos (by (simp only [ti_lt, ti_le, ti_eq, ti_add, ti_sub, ti_neg, ti_lt64, ti_le64, ti_eq64, ti_wide, Int32.reduceToInt, Int64.reduceToInt] at * <;> omega))]
      · rename_i a b
        rw [if_neg (by (simp only [ti_lt, ti_le, ti_eq, ti_add, ti_sub, ti_neg, ti_lt64, ti_le64, ti_eq64, ti_wide, Int32.reduceToInt, Int64.reduceToInt] at * <;> omega))]
    · rfl
  · simp only [e2, if_false, Bool.false_eq_true]
    split
    · split
      · rename_i a b
        rw [if_pos (by (simp only [ti_lt, ti_le, ti_eq, ti_add, ti_sub, ti_neg, ti_lt64, ti_le64, ti_eq64, ti_wide, Int32.reduceToInt, Int64.reduceToInt] at * <;> omega))]
      · rename_i a b
        rw [if_neg (by (simp only [ti_lt, ti_le, ti_eq, ti_add, ti_sub, ti_neg, ti_lt64, ti_le64, ti_eq64, ti_wide, Int32.reduceToInt, Int64.reduceToInt] at * <;> omega))]
    · rfl
/-- k slips from s on, counted -/
def wsum (f : Int32 → Int32) : Nat → Int32 → Int32 → Int32
  | 0, _, acc => acc
  | k + 1, s, acc => wsum f k (s + 1) (acc + f s)
def restS (m : am_H) (cell carry s : Int32) : Int32 := if waB m (downS m cell carry s) = true then cell else downS m cell carry s
def toS (m : am_H) (cell carry to s : Int32) : Int32 := if restS m cell carry s = to then 1 else 0
theorem downS_cell (m : am_H) (cell carry s : Int32) : cellB (downS m cell carry s) = true := heldS_cell _
theorem l_Hole_waysToLie {x m : am_H} (hR : RH x m) {c sp to carry : Int32} (hsp : 0 ≤ sp.toInt ∧ sp.toInt ≤ 3) : ∀ (k n : Nat) (s acc : Int32), k < n → (k : Int) = sp.toInt + 1 - s.toInt → -3 ≤ s.toInt → f_Hole_waysToLie_15_l x n c sp to (aimS m c carry) acc s = some (wsum (toS m c carry to) k s acc) := by
  intro k
  induction k with
  | zero =>
    intro n s acc hn hk hs
    obtain ⟨n, rfl⟩ : ∃ j, n = j + 1 := ⟨n - 1, by omega⟩
    have e : sp < s := by (simp only [ti_lt, ti_le, ti_eq, ti_add, ti_sub, ti_neg, ti_lt64, ti_le64, ti_eq64, ti_wide, Int32.reduceToInt, Int64.reduceToInt] at * <;> omega)
    show f_Hole_waysToLie_15 (f_Hole_waysToLie_15_l x n) x c sp to (aimS m c carry) acc s = _
    simp only [f_Hole_waysToLie_71, f_Hole_waysToLie_62, f_Hole_waysToLie_61, f_Hole_waysToLie_57, f_Hole_waysToLie_46, f_Hole_waysToLie_44, f_Hole_waysToLie_40, f_Hole_waysToLie_37, f_Hole_waysToLie_29, f_Hole_waysToLie_21, f_Hole_waysToLie_15, f_Hole_waysToLie_6, f_Hole_waysToLie, if_pos e, wsum]
  | succ k ih =>
    intro n s acc hn hk hs
    obtain ⟨n, rfl⟩ : ∃ j, n = j + 1 := ⟨n - 1, by omega⟩
    have e : ¬ sp < s := by (simp only [ti_lt, ti_le, ti_eq, ti_add, ti_sub, ti_neg, ti_lt64, ti_le64, ti_eq64, ti_wide, Int32.reduceToInt, Int64.reduceToInt] at * <;> omega)
    have e1 := ti_add s 1
    have hd : heldS (aimS m c carry + s) = downS m c carry s := rfl
    show f_Hole_waysToLie_15 (f_Hole_waysToLie_15_l x n) x c sp to (aimS m c carry) acc s = _
    simp only [f_Hole_waysToLie_71, f_Hole_waysToLie_62, f_Hole_waysToLie_61, f_Hole_waysToLie_57, f_Hole_waysToLie_46, f_Hole_waysToLie_44, f_Hole_waysToLie_40, f_Hole_waysToLie_37, f_Hole_waysToLie_29, f_Hole_waysToLie_21, f_Hole_waysToLie_15, f_Hole_waysToLie_6, f_Hole_waysToLie, if_neg e, v_Hole_held, hd, v_Hole_isWater hR, downS_cell, Bool.true_and, Option.bind_some, wsum]
    have i1 := fun acc => ih n (s + 1) acc (by omega) (by (simp only [ti_lt, ti_le, ti_eq, ti_add, ti_sub, ti_neg, ti_lt64, ti_le64, ti_eq64, ti_wide, Int32.reduceToInt, Int64.reduceToInt] at * <;> omega)) (by (simp only [ti_lt, ti_le, ti_eq, ti_add, ti_sub, ti_neg, ti_lt64, ti_le64, ti_eq64, ti_wide, Int32.reduceToInt, Int64.reduceToInt] at * <;> omega))
    simp only [i1]
    by_cases w : waB m (downS m c carry s) = true
    · simp only [w, if_true, toS, restS]
      split <;> rfl
    · simp only [w, if_false, Bool.false_eq_true, toS, restS]
      split <;> rfl
theorem l_Model_waysTo {m : am_H} {c sp to carry : Int32} (hc : cellB c = true) (hsp : 0 ≤ sp.toInt ∧ sp.toInt ≤ 3) : ∀ (k n : Nat) (s acc : Int32), k < n → (k : Int) = sp.toInt + 1 - s.toInt → -3 ≤ s.toInt → f_Model_waysTo_7_l m n c carry sp to acc s = some (wsum (toS m c carry to) k s acc) := by
  intro k
  induction k with
  | zero =>
    intro n s acc hn hk hs
    obtain ⟨n, rfl⟩ : ∃ j, n = j + 1 := ⟨n - 1, by omega⟩
    have e : sp < s := by (simp only [ti_lt, ti_le, ti_eq, ti_add, ti_sub, ti_neg, ti_lt64, ti_le64, ti_eq64, ti_wide, Int32.reduceToInt, Int64.reduceToInt] at * <;> omega)
    show f_Model_waysTo_7 (f_Model_waysTo_7_l m n) m c carry sp to acc s = _
    simp only [f_Model_waysTo_59, f_Model_waysTo_50, f_Model_waysTo_49, f_Model_waysTo_45, f_Model_waysTo_40, f_Model_waysTo_38, f_Model_waysTo_34, f_Model_waysTo_31, f_Model_waysTo_21, f_Model_waysTo_13, f_Model_waysTo_7, f_Model_waysTo, if_pos e, wsum]
  | succ k ih =>
    intro n s acc hn hk hs
    obtain ⟨n, rfl⟩ : ∃ j, n = j + 1 := ⟨n - 1, by omega⟩
    have e : ¬ sp < s := by (simp only [ti_lt, ti_le, ti_eq, ti_add, ti_sub, ti_neg, ti_lt64, ti_le64, ti_eq64, ti_wide, Int32.reduceToInt, Int64.reduceToInt] at * <;> omega)
    have e1 := ti_add s 1
    show f_Model_waysTo_7 (f_Model_waysTo_7_l m n) m c carry sp to acc s = _
    simp only [f_Model_waysTo_59, f_Model_waysTo_50, f_Model_waysTo_49, f_Model_waysTo_45, f_Model_waysTo_40, f_Model_waysTo_38, f_Model_waysTo_34, f_Model_waysTo_31, f_Model_waysTo_21, f_Model_waysTo_13, f_Model_waysTo_7, f_Model_waysTo, if_neg e, v_Model_downOf m hc, v_Model_isWater m (downS_cell m c carry s), Option.bind_some, wsum]
    have i1 := fun acc => ih n (s + 1) acc (by omega) (by (simp only [ti_lt, ti_le, ti_eq, ti_add, ti_sub, ti_neg, ti_lt64, ti_le64, ti_eq64, ti_wide, Int32.reduceToInt, Int64.reduceToInt] at * <;> omega)) (by (simp only [ti_lt, ti_le, ti_eq, ti_add, ti_sub, ti_neg, ti_lt64, ti_le64, ti_eq64, ti_wide, Int32.reduceToInt, Int64.reduceToInt] at * <;> omega))
    simp only [i1]
    by_cases w : waB m (downS m c carry s) = true
    · simp only [w, if_true, toS, restS]
      split <;> rfl
    · simp only [w, if_false, Bool.false_eq_true, toS, restS]
      split <;> rfl
/-- how many slips of a spread, from the least on -/
def spN (sp : Int32) : Nat := (2 * sp.toInt + 1).toNat
def waysS (m : am_H) (c carry sp to : Int32) : Int32 := wsum (toS m c carry to) (spN sp) (-sp) 0
theorem v_Hole_waysToLie {x m : am_H} (hR : RH x m) {c sp : Int32} (carry to : Int32) (hc : cellB c = true) (hsp : 0 ≤ sp.toInt ∧ sp.toInt ≤ 3) : f_Hole_waysToLie x c carry sp to = some (waysS m c carry sp to) := by
  have e := ti_neg sp
  simp only [f_Hole_waysToLie_71, f_Hole_waysToLie_62, f_Hole_waysToLie_61, f_Hole_waysToLie_57, f_Hole_waysToLie_46, f_Hole_waysToLie_44, f_Hole_waysToLie_40, f_Hole_waysToLie_37, f_Hole_waysToLie_29, f_Hole_waysToLie_21, f_Hole_waysToLie_15, f_Hole_waysToLie_6, f_Hole_waysToLie, v_Hole_aim hR hc, Option.bind_some]
  exact l_Hole_waysToLie hR hsp _ _ _ _ (by unfold spN am_fu; omega) (by unfold spN; omega) (by omega)
theorem v_Model_waysTo {m : am_H} {c sp : Int32} (carry to : Int32) (hc : cellB c = true) (hsp : 0 ≤ sp.toInt ∧ sp.toInt ≤ 3) : f_Model_waysTo m c carry sp to = some (waysS m c carry sp to) := by
  have e := ti_neg sp
  simp only [f_Model_waysTo_59, f_Model_waysTo_50, f_Model_waysTo_49, f_Model_waysTo_45, f_Model_waysTo_40, f_Model_waysTo_38, f_Model_waysTo_34, f_Model_waysTo_31, f_Model_waysTo_21, f_Model_waysTo_13, f_Model_waysTo_7, f_Model_waysTo]
  exact l_Model_waysTo hc hsp _ _ _ _ (by unfold spN am_fu; omega) (by unfold spN; omega) (by omega)
