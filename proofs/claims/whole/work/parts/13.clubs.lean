/-! a club's numbers; the shots' answers -/
def caS (m : am_H) (c : Int32) : Int32 := m.1 1 (31 + c.toNatClampNeg)
def spS (m : am_H) (c : Int32) : Int32 := m.1 1 (37 + c.toNatClampNeg)
def beS (m : am_H) (c : Int32) : Int32 := m.1 1 (43 + c.toNatClampNeg)
theorem at_club {m : am_H} (hV : VM m) {c : Int32} (h : clubB m c = true) :
    (am_ok (31 + c) 54 = true ∧ m.1 1 (31 + c).toNatClampNeg = caS m c) ∧ (am_ok (37 + c) 54 = true ∧ m.1 1 (37 + c).toNatClampNeg = spS m c) ∧ (am_ok (43 + c) 54 = true ∧ m.1 1 (43 + c).toNatClampNeg = beS m c) ∧ am_ok c 6 = true := by
  have h1 := clubB_iff.mp h
  have h2 := hV.2
  have e1 := ti_add 31 c
  have e2 := ti_add 37 c
  have e3 := ti_add 43 c
  have z1 : (31 : Int32).toInt = 31 := rfl
  have z2 : (37 : Int32).toInt = 37 := rfl
  have z3 : (43 : Int32).toInt = 43 := rfl
  rw [z1] at e1; rw [z2] at e2; rw [z3] at e3
  refine ⟨⟨ok_of (by omega), ?_⟩, ⟨ok_of (by omega), ?_⟩, ⟨ok_of (by omega), ?_⟩, ok_of (by omega)⟩
  · have q : (31 + c).toNatClampNeg = 31 + c.toNatClampNeg := by rw [ti_nat, ti_nat]; omega
    rw [q]; rfl
  · have q : (37 + c).toNatClampNeg = 37 + c.toNatClampNeg := by rw [ti_nat, ti_nat]; omega
    rw [q]; rfl
  · have q : (43 + c).toNatClampNeg = 43 + c.toNatClampNeg := by rw [ti_nat, ti_nat]; omega
    rw [q]; rfl
theorem caS_b {m : am_H} (hV : VM m) {c : Int32} (h : clubB m c = true) : 0 ≤ (caS m c).toInt ∧ (caS m c).toInt ≤ 30 := hV.c (clubB_nat hV h)
theorem spS_b {m : am_H} (hV : VM m) {c : Int32} (h : clubB m c = true) : 0 ≤ (spS m c).toInt ∧ (spS m c).toInt ≤ 3 := hV.s (clubB_nat hV h)
theorem beS_b {m : am_H} (hV : VM m) {c : Int32} (h : clubB m c = true) : 0 ≤ (beS m c).toInt ∧ (beS m c).toInt ≤ 9 := hV.b (clubB_nat hV h)
theorem v_Hole_carryOf {x m : am_H} (hR : RH x m) (hV : VM m) {c : Int32} (h : clubB m c = true) : f_Hole_carryOf x c = some (caS m c) := by
  simp only [f_Hole_carryOf_17, f_Hole_carryOf_8, f_Hole_carryOf_5, f_Hole_carryOf, v_Hole_hasClub hR hV, h, if_true, (at_club hV h).2.2.2, hR.c (clubB_nat hV h), caS]
theorem v_Hole_spreadOf {x m : am_H} (hR : RH x m) (hV : VM m) {c : Int32} (h : clubB m c = true) : f_Hole_spreadOf x c = some (spS m c) := by
  simp only [f_Hole_spreadOf_17, f_Hole_spreadOf_8, f_Hole_spreadOf_5, f_Hole_spreadOf, v_Hole_hasClub hR hV, h, if_true, (at_club hV h).2.2.2, hR.s (clubB_nat hV h), spS]
theorem v_Hole_believedOf {x m : am_H} (hR : RH x m) (hV : VM m) {c : Int32} (h : clubB m c = true) : f_Hole_believedOf x c = some (beS m c) := by
  simp only [f_Hole_believedOf_17, f_Hole_believedOf_8, f_Hole_believedOf_5, f_Hole_believedOf, v_Hole_hasClub hR hV, h, if_true, (at_club hV h).2.2.2, hR.b (clubB_nat hV h), beS]
theorem v_Hole_waysOf {x m : am_H} (hR : RH x m) (hV : VM m) {c : Int32} (h : clubB m c = true) : f_Hole_waysOf x c = some (2 * spS m c + 1) := by
  simp only [f_Hole_waysOf_6, f_Hole_waysOf, v_Hole_spreadOf hR hV h, Option.bind_some]
theorem v_Club_isFractionPart (p : Int32) : f_Club_isFractionPart p = decide (0 ≤ p.toInt ∧ p.toInt ≤ 1) := by
  simp only [f_Club_isFractionPart_9, f_Club_isFractionPart_13, f_Club_isFractionPart_4, f_Club_isFractionPart, ti_lt, ti_le, ti_eq, ti_add, ti_sub, ti_neg, ti_lt64, ti_le64, ti_eq64, ti_wide, Int32.reduceToInt, Int64.reduceToInt]
  split
  · symm; rw [decide_eq_true_iff]; omega
  · split
    · symm; rw [decide_eq_true_iff]; omega
    · symm; rw [decide_eq_false_iff_not]; omega
theorem v_Model_within32 (p : Int32) (a b : Int64) : f_Model_within p.toInt64 a b = decide (a.toInt ≤ p.toInt ∧ p.toInt ≤ b.toInt) := by rw [v_Model_within, ti_wide]
theorem part_of {p : Int32} (h : decide (0 ≤ p.toInt ∧ p.toInt ≤ 1) = true) : p = 0 ∨ p = 1 := by
  rw [decide_eq_true_iff] at h
  rw [ti_eq, ti_eq]
  have z0 : (0 : Int32).toInt = 0 := rfl
  have z1 : (1 : Int32).toInt = 1 := rfl
  omega
def ccB (m : am_H) (cc : Int32) : Bool := decide (0 ≤ cc.toInt) && (cellB (cc / 10) && (clubB m (cc - cc / 10 * 10) && !grB m (cc / 10)))
theorem v_Club_isShot {x m : am_H} (hR : RH x m) (hV : VM m) (cc : Int32) : f_Club_isShot x cc = some (ccB m cc) := by
  simp only [f_Club_isShot_36, f_Club_isShot_32, f_Club_isShot_29, f_Club_isShot_18, f_Club_isShot_15, f_Club_isShot_4, f_Club_isShot, v_Hole_isOffGreen hR, v_Hole_hasClub hR hV, Option.bind_some, ccB]
  by_cases e : cc < 0
  · have : decide (0 ≤ cc.toInt) = false := by rw [decide_eq_false_iff_not]; simp only [ti_lt, ti_le, ti_eq, ti_add, ti_sub, ti_neg, ti_lt64, ti_le64, ti_eq64, ti_wide, Int32.reduceToInt, Int64.reduceToInt] at e; omega
    simp only [e, if_true, this, Bool.false_and]
  · have : decide (0 ≤ cc.toInt) = true := by rw [decide_eq_true_iff]; simp only [ti_lt, ti_le, ti_eq, ti_add, ti_sub, ti_neg, ti_lt64, ti_le64, ti_eq64, ti_wide, Int32.reduceToInt, Int64.reduceToInt] at e; omega
    simp only [e, if_false, Bool.false_eq_true, this, Bool.true_and]
    cases cellB (cc / 10) <;> cases grB m (cc / 10) <;> cases clubB m (cc - cc / 10 * 10) <;> rfl
theorem v_Model_isCc {m : am_H} (hV : VM m) (cc : Int32) : f_Model_isCc m cc = some (ccB m cc) := by
  simp only [f_Model_isCc_42, f_Model_isCc_38, f_Model_isCc_35, f_Model_isCc_27, f_Model_isCc_24, f_Model_isCc_15, f_Model_isCc_12, f_Model_isCc_4, f_Model_isCc, v_Model_isCell32, v_Model_isClub32 hV, ccB]
  by_cases e : cc < 0
  · have : decide (0 ≤ cc.toInt) = false := by rw [decide_eq_false_iff_not]; simp only [ti_lt, ti_le, ti_eq, ti_add, ti_sub, ti_neg, ti_lt64, ti_le64, ti_eq64, ti_wide, Int32.reduceToInt, Int64.reduceToInt] at e; omega
    simp only [e, if_true, this, Bool.false_and]
  · have : decide (0 ≤ cc.toInt) = true := by rw [decide_eq_true_iff]; simp only [ti_lt, ti_le, ti_eq, ti_add, ti_sub, ti_neg, ti_lt64, ti_le64, ti_eq64, ti_wide, Int32.reduceToInt, Int64.reduceToInt] at e; omega
    simp only [e, if_false, Bool.false_eq_true, this, Bool.true_and]
    cases hc : cellB (cc / 10) with
    | false => rfl
    | true =>
      rw [v_Model_isGreen m hc]
      cases clubB m (cc - cc / 10 * 10) <;> cases grB m (cc / 10) <;> rfl
theorem ccB_iff {m : am_H} {cc : Int32} (h : ccB m cc = true) : cellB (cc / 10) = true ∧ clubB m (cc - cc / 10 * 10) = true ∧ grB m (cc / 10) = false := by
  simp only [ccB, Bool.and_eq_true, Bool.not_eq_true'] at h
  exact ⟨h.2.1, h.2.2.1, h.2.2.2⟩
/-- a count of slips is small -/
theorem wsum_b {f : Int32 → Int32} (hf : ∀ s, 0 ≤ (f s).toInt ∧ (f s).toInt ≤ 1) : ∀ (k : Nat) (s acc : Int32), 0 ≤ acc.toInt → acc.toInt + k ≤ 1000 → acc.toInt ≤ (wsum f k s acc).toInt ∧ (wsum f k s acc).toInt ≤ acc.toInt + k := by
  intro k
  induction k with
  | zero => intro s acc h1 h2; simp only [wsum]; omega
  | succ k ih =>
    intro s acc h1 h2
    have h3 := hf s
    have h4 := ti_add acc (f s)
    simp only [wsum]
    have := ih (s + 1) (acc + f s) (by omega) (by omega)
    omega
theorem toS_b (m : am_H) (c carry to s : Int32) : 0 ≤ (toS m c carry to s).toInt ∧ (toS m c carry to s).toInt ≤ 1 := by
  unfold toS; split <;> decide
theorem odd_b {m : am_H} (hV : VM m) {c : Int32} (h : clubB m c = true) : (2 * spS m c + 1).toInt = 2 * (spS m c).toInt + 1 := by
  have h1 := spS_b hV h
  have e1 := ti_add (2 * spS m c) 1
  have e2 := ti_mul 2 (spS m c)
  have z2 : (2 : Int32).toInt = 2 := rfl
  have z1 : (1 : Int32).toInt = 1 := rfl
  rw [z2] at e2; rw [z1] at e1
  omega
