/-! what the two heaps say: the model's heap is the picture, the class's one is held to it -/
def vlo (i : Nat) : Int := if i = 49 then 1 else if i = 50 then -3 else 0
def vhi (i : Nat) : Int := if i < 31 then 4 else if i < 37 then 30 else if i < 43 then 3 else if i < 49 then 9 else if i = 49 then 29 else if i = 50 then 3 else 12
/-- the model's numbers are in their bounds -/
def VM (m : am_H) : Prop := (∀ i, i < 54 → vlo i ≤ (m.1 1 i).toInt ∧ (m.1 1 i).toInt ≤ vhi i) ∧ 0 ≤ (m.1 0 6).toInt ∧ (m.1 0 6).toInt ≤ 6
/-- where the class keeps the number of a place of the model's row -/
def xp (p : Nat) : Nat × Nat := if p < 31 then (2, p) else if p < 37 then (3, p - 31) else if p < 43 then (4, p - 37) else if p < 49 then (5, p - 43) else (1, p - 44)
def RH (x m : am_H) : Prop := (∀ p, p < 54 → x.1 (xp p).1 (xp p).2 = m.1 1 p) ∧ x.1 1 4 = m.1 0 6
theorem RH.g {x m : am_H} (h : RH x m) {i : Nat} (hi : i < 31) : x.1 2 i = m.1 1 i := by
  have := h.1 i (by omega)
  simpa only [xp, if_pos hi] using this
theorem RH.c {x m : am_H} (h : RH x m) {i : Nat} (hi : i < 6) : x.1 3 i = m.1 1 (31 + i) := by
  have := h.1 (31 + i) (by omega)
  rw [xp, if_neg (by omega), if_pos (by omega)] at this
  simpa only [Nat.add_sub_cancel_left] using this
theorem RH.s {x m : am_H} (h : RH x m) {i : Nat} (hi : i < 6) : x.1 4 i = m.1 1 (37 + i) := by
  have := h.1 (37 + i) (by omega)
  rw [xp, if_neg (by omega), if_neg (by omega), if_pos (by omega)] at this
  simpa only [Nat.add_sub_cancel_left] using this
theorem RH.b {x m : am_H} (h : RH x m) {i : Nat} (hi : i < 6) : x.1 5 i = m.1 1 (43 + i) := by
  have := h.1 (43 + i) (by omega)
  rw [xp, if_neg (by omega), if_neg (by omega), if_neg (by omega), if_pos (by omega)] at this
  simpa only [Nat.add_sub_cancel_left] using this
theorem RH.pin {x m : am_H} (h : RH x m) : x.1 1 5 = m.1 1 49 := h.1 49 (by decide)
theorem RH.wind {x m : am_H} (h : RH x m) : x.1 1 6 = m.1 1 50 := h.1 50 (by decide)
theorem RH.touch {x m : am_H} (h : RH x m) : x.1 1 7 = m.1 1 51 := h.1 51 (by decide)
theorem RH.bold {x m : am_H} (h : RH x m) : x.1 1 8 = m.1 1 52 := h.1 52 (by decide)
theorem RH.risk {x m : am_H} (h : RH x m) : x.1 1 9 = m.1 1 53 := h.1 53 (by decide)
theorem VM.g {m : am_H} (h : VM m) {i : Nat} (hi : i < 31) : 0 ≤ (m.1 1 i).toInt ∧ (m.1 1 i).toInt ≤ 4 := by
  have := h.1 i (by omega)
  rw [vlo, vhi, if_neg (by omega), if_neg (by omega), if_pos hi] at this
  exact this
theorem VM.c {m : am_H} (h : VM m) {i : Nat} (hi : i < 6) : 0 ≤ (m.1 1 (31 + i)).toInt ∧ (m.1 1 (31 + i)).toInt ≤ 30 := by
  have := h.1 (31 + i) (by omega)
  rw [vlo, vhi, if_neg (by omega), if_neg (by omega), if_neg (by omega), if_pos (by omega)] at this
  exact this
theorem VM.s {m : am_H} (h : VM m) {i : Nat} (hi : i < 6) : 0 ≤ (m.1 1 (37 + i)).toInt ∧ (m.1 1 (37 + i)).toInt ≤ 3 := by
  have := h.1 (37 + i) (by omega)
  rw [vlo, vhi, if_neg (by omega), if_neg (by omega), if_neg (by omega), if_neg (by omega), if_pos (by omega)] at this
  exact this
theorem VM.b {m : am_H} (h : VM m) {i : Nat} (hi : i < 6) : 0 ≤ (m.1 1 (43 + i)).toInt ∧ (m.1 1 (43 + i)).toInt ≤ 9 := by
  have := h.1 (43 + i) (by omega)
  rw [vlo, vhi, if_neg (by omega), if_neg (by omega), if_neg (by omega), if_neg (by omega), if_neg (by omega), if_pos (by omega)] at this
  exact this
theorem VM.pin {m : am_H} (h : VM m) : 1 ≤ (m.1 1 49).toInt ∧ (m.1 1 49).toInt ≤ 29 := h.1 49 (by decide)
theorem VM.wind {m : am_H} (h : VM m) : -3 ≤ (m.1 1 50).toInt ∧ (m.1 1 50).toInt ≤ 3 := h.1 50 (by decide)
theorem VM.touch {m : am_H} (h : VM m) : 0 ≤ (m.1 1 51).toInt ∧ (m.1 1 51).toInt ≤ 12 := h.1 51 (by decide)
theorem VM.bold {m : am_H} (h : VM m) : 0 ≤ (m.1 1 52).toInt ∧ (m.1 1 52).toInt ≤ 12 := h.1 52 (by decide)
theorem VM.risk {m : am_H} (h : VM m) : 0 ≤ (m.1 1 53).toInt ∧ (m.1 1 53).toInt ≤ 12 := h.1 53 (by decide)
/-! cells, clubs, ground -/
def cellB (x : Int32) : Bool := decide (0 ≤ x.toInt ∧ x.toInt < 31)
theorem cellB_iff {x : Int32} : cellB x = true ↔ 0 ≤ x.toInt ∧ x.toInt < 31 := by rw [cellB, decide_eq_true_iff]
theorem cellB_nat {x : Int32} (h : cellB x = true) : x.toNatClampNeg < 31 := by
  have := cellB_iff.mp h
  rw [ti_nat]; omega
theorem v_Hole_isCell (x : Int32) : f_Hole_isCell x = cellB x := by
  simp only [f_Hole_isCell_14, f_Hole_isCell_10, f_Hole_isCell_4, f_Hole_isCell, cellB, ti_lt, ti_le, ti_eq, ti_add, ti_sub, ti_neg, ti_lt64, ti_le64, ti_eq64, ti_wide, Int32.reduceToInt, Int64.reduceToInt]
  split
  · symm; rw [decide_eq_false_iff_not]; omega
  · split
    · symm; rw [decide_eq_false_iff_not]; omega
    · symm; rw [decide_eq_true_iff]; omega
theorem v_Model_within (v a b : Int64) : f_Model_within v a b = decide (a.toInt ≤ v.toInt ∧ v.toInt ≤ b.toInt) := by
  simp only [f_Model_within_17, f_Model_within_13, f_Model_within_6, f_Model_within, ti_lt, ti_le, ti_eq, ti_add, ti_sub, ti_neg, ti_lt64, ti_le64, ti_eq64, ti_wide, Int32.reduceToInt, Int64.reduceToInt]
  split
  · symm; rw [decide_eq_false_iff_not]; omega
  · split
    · symm; rw [decide_eq_false_iff_not]; omega
    · symm; rw [decide_eq_true_iff]; omega
theorem v_Model_isCell (x : Int64) : f_Model_isCell x = decide (0 ≤ x.toInt ∧ x.toInt < 31) := by
  simp only [f_Model_isCell_8, f_Model_isCell, v_Model_within, Int64.reduceToInt]
  rw [decide_eq_decide]
  omega
theorem v_Model_isCell32 (x : Int32) : f_Model_isCell x.toInt64 = cellB x := by
  rw [v_Model_isCell, ti_wide]; rfl
def clubB (m : am_H) (x : Int32) : Bool := decide (0 ≤ x.toInt ∧ x.toInt < (m.1 0 6).toInt)
theorem clubB_iff {m : am_H} {x : Int32} : clubB m x = true ↔ 0 ≤ x.toInt ∧ x.toInt < (m.1 0 6).toInt := by rw [clubB, decide_eq_true_iff]
theorem clubB_nat {m : am_H} {x : Int32} (hV : VM m) (h : clubB m x = true) : x.toNatClampNeg < 6 := by
  have := clubB_iff.mp h
  have := hV.2
  rw [ti_nat]; omega
theorem v_Hole_hasClub {x m : am_H} (hR : RH x m) (hV : VM m) (c : Int32) : f_Hole_hasClub x c = clubB m c := by
  have := hV.2
  simp only [f_Hole_hasClub_22, f_Hole_hasClub_18, f_Hole_hasClub_12, f_Hole_hasClub_4, f_Hole_hasClub, clubB, ti_lt, ti_le, ti_eq, ti_add, ti_sub, ti_neg, ti_lt64, ti_le64, ti_eq64, ti_wide, Int32.reduceToInt, Int64.reduceToInt, hR.2]
  split
  · symm; rw [decide_eq_false_iff_not]; omega
  · split
    · symm; rw [decide_eq_false_iff_not]; omega
    · split
      · symm; rw [decide_eq_false_iff_not]; omega
      · symm; rw [decide_eq_true_iff]; omega
theorem v_Model_isClub {m : am_H} (hV : VM m) (c : Int64) : f_Model_isClub m c = decide (0 ≤ c.toInt ∧ c.toInt < (m.1 0 6).toInt) := by
  have := hV.2
  simp only [f_Model_isClub_12, f_Model_isClub, v_Model_within, ti_lt, ti_le, ti_eq, ti_add, ti_sub, ti_neg, ti_lt64, ti_le64, ti_eq64, ti_wide, Int32.reduceToInt, Int64.reduceToInt]
  rw [decide_eq_decide]
  omega
theorem v_Model_isClub32 {m : am_H} (hV : VM m) (c : Int32) : f_Model_isClub m c.toInt64 = clubB m c := by
  rw [v_Model_isClub hV, ti_wide]; rfl
def grB (m : am_H) (c : Int32) : Bool := decide (m.1 1 c.toNatClampNeg = 4 ∨ c = m.1 1 49)
def waB (m : am_H) (c : Int32) : Bool := decide (m.1 1 c.toNatClampNeg = 3 ∧ ¬ c = m.1 1 49)
theorem v_Hole_isGreen {x m : am_H} (hR : RH x m) (c : Int32) : f_Hole_isGreen x c = some (cellB c && grB m c) := by
  simp only [f_Hole_isGreen_29, f_Hole_isGreen_25, f_Hole_isGreen_15, f_Hole_isGreen_7, f_Hole_isGreen_4, f_Hole_isGreen, v_Hole_isCell]
  cases hc : cellB c with
  | false => simp
  | true =>
    have h1 := cellB_iff.mp hc
    have h2 := cellB_nat hc
    simp only [if_true, hR.pin, hR.g h2, ok_of h1, grB, Bool.true_and]
    by_cases e1 : c = m.1 1 49
    · simp [e1]
    · by_cases e2 : m.1 1 c.toNatClampNeg = 4 <;> simp [e1, e2]
theorem v_Model_isGreen (m : am_H) {c : Int32} (hc : cellB c = true) : f_Model_isGreen m c = some (grB m c) := by
  have h1 := cellB_iff.mp hc
  have h2 : am_ok c 54 = true := ok_of (by omega)
  simp only [f_Model_isGreen_21, f_Model_isGreen_25, f_Model_isGreen_10, f_Model_isGreen, h2, nl_0, nl_1, nl_2, nl_3, nl_4, nl_5, nl_6, nl_39, nl_49, nl_50, nl_51, nl_52, nl_53, nl_93, nl_130, grB, if_true]
  by_cases e1 : c = m.1 1 49
  · by_cases e2 : m.1 1 c.toNatClampNeg = 4 <;> simp [e1, e2]
  · by_cases e2 : m.1 1 c.toNatClampNeg = 4 <;> simp [e1, e2]
theorem v_Hole_isOffGreen {x m : am_H} (hR : RH x m) (c : Int32) : f_Hole_isOffGreen x c = some (cellB c && !grB m c) := by
  simp only [f_Hole_isOffGreen_19, f_Hole_isOffGreen_15, f_Hole_isOffGreen_12, f_Hole_isOffGreen_7, f_Hole_isOffGreen_4, f_Hole_isOffGreen, v_Hole_isCell, v_Hole_isGreen hR]
  cases hc : cellB c with
  | false => simp
  | true => cases hg : grB m c <;> simp [hg]
theorem v_Hole_isWater {x m : am_H} (hR : RH x m) (c : Int32) : f_Hole_isWater x c = some (cellB c && waB m c) := by
  simp only [f_Hole_isWater_29, f_Hole_isWater_25, f_Hole_isWater_15, f_Hole_isWater_7, f_Hole_isWater_4, f_Hole_isWater, v_Hole_isCell]
  cases hc : cellB c with
  | false => simp
  | true =>
    have h1 := cellB_iff.mp hc
    have h2 := cellB_nat hc
    simp only [if_true, hR.pin, hR.g h2, ok_of h1, waB, Bool.true_and]
    by_cases e1 : c = m.1 1 49
    · simp [e1]
    · by_cases e2 : m.1 1 c.toNatClampNeg = 3 <;> simp [e1, e2]
theorem v_Model_isWater (m : am_H) {c : Int32} (hc : cellB c = true) : f_Model_isWater m c = some (waB m c) := by
  have h1 := cellB_iff.mp hc
  have h2 : am_ok c 54 = true := ok_of (by omega)
  simp only [f_Model_isWater_22, f_Model_isWater_18, f_Model_isWater_15, f_Model_isWater_10, f_Model_isWater, h2, v_Model_isGreen m hc, if_true, waB, grB]
  by_cases e2 : m.1 1 c.toNatClampNeg = 3
  · have e3 : ¬ m.1 1 c.toNatClampNeg = 4 := by rw [e2]; decide
    by_cases e1 : c = m.1 1 49
    · rw [e1] at e2; simp [e1, e2]
    · simp [e1, e2]
  · simp [e2]
