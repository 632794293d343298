/-! LIES, chance, layUp -/
theorem part_b {p : Int32} : decide (0 ≤ p.toInt ∧ p.toInt ≤ 1) = true → p = 0 ∨ p = 1 := part_of
theorem p_ways {m : am_H} (hV : VM m) {c : Int32} (hc : clubB m c = true) {w : Int32} (hw : 0 ≤ w.toInt ∧ w.toInt ≤ 7) {part : Int32} (hp : part = 0 ∨ part = 1) : ∃ r, f_Club_partOf w.toInt64 (2 * spS m c + 1).toInt64 part = some r ∧ f_Model_partOf w.toInt64 (2 * spS m c + 1).toInt64 part = some r := by
  have h1 := spS_b hV hc
  have h2 := odd_b hV hc
  refine p_partOf ?_ ?_ hp
  · rw [ti_wide]; omega
  · rw [ti_wide]; omega
theorem spN_b {m : am_H} (hV : VM m) {c : Int32} (hc : clubB m c = true) : spN (spS m c) ≤ 7 := by
  have := spS_b hV hc
  unfold spN; omega
theorem waysS_b {m : am_H} (hV : VM m) {c : Int32} (hc : clubB m c = true) (from_ carry to : Int32) : 0 ≤ (waysS m from_ carry (spS m c) to).toInt ∧ (waysS m from_ carry (spS m c) to).toInt ≤ 7 := by
  have h1 := spN_b hV hc
  have h2 := wsum_b (toS_b m from_ carry to) (spN (spS m c)) (-spS m c) 0 (by decide) (by have : (0 : Int32).toInt = 0 := rfl; omega)
  have h3 : (0 : Int32).toInt = 0 := rfl
  unfold waysS
  omega
theorem E_lies {x m : am_H} (hR : RH x m) (hV : VM m) (cc cell part : Int32) : ∃ r, f_Club_lies x cc cell part = some r ∧ f_Model_lies m cc cell part = some r := by
  simp only [f_Club_lies_22, f_Club_lies_81, f_Club_lies_76, f_Club_lies_62, f_Club_lies_58, f_Club_lies_49, f_Club_lies_26, f_Club_lies_19, f_Club_lies_15, f_Club_lies_12, f_Club_lies_8, f_Club_lies_5, f_Club_lies, f_Model_lies_26, f_Model_lies_79, f_Model_lies_67, f_Model_lies_30, f_Model_lies_23, f_Model_lies_16, f_Model_lies_13, f_Model_lies_8, f_Model_lies_5, f_Model_lies, v_Club_isShot hR hV, v_Model_isCc hV, Option.bind_some, v_Hole_isCell, v_Model_isCell32, v_Club_isFractionPart, v_Model_within32, Int64.reduceToInt]
  cases h1 : ccB m cc with
  | false => exact ⟨_, rfl, rfl⟩
  | true =>
    obtain ⟨k1, k2, k3⟩ := ccB_iff h1
    cases h2 : cellB cell with
    | false => exact ⟨_, rfl, rfl⟩
    | true =>
      cases h3 : decide (0 ≤ part.toInt ∧ part.toInt ≤ 1) with
      | false => exact ⟨_, rfl, rfl⟩
      | true =>
        obtain ⟨⟨a1, a2⟩, ⟨a3, a4⟩, -, -⟩ := at_club hV k2
        obtain ⟨r, r1, r2⟩ := p_ways hV k2 (waysS_b hV k2 (cc / 10) (caS m (cc - cc / 10 * 10)) cell) (part_b h3)
        refine ⟨r, ?_, ?_⟩
        · simp only [if_true, v_Hole_carryOf hR hV k2, v_Hole_spreadOf hR hV k2, Option.bind_some, v_Hole_waysToLie hR _ _ k1 (spS_b hV k2), v_Hole_waysOf hR hV k2, r1]
        · simp only [if_true, a1, a2, a3, a4, v_Model_waysTo _ _ k1 (spS_b hV k2), Option.bind_some, r2]
def wetS (m : am_H) (c carry s : Int32) : Int32 := if waB m (downS m c carry s) = true then 1 else 0
def grnS (m : am_H) (c carry s : Int32) : Int32 := if grB m (downS m c carry s) = true then 1 else 0
theorem l_Hole_wet {x m : am_H} (hR : RH x m) {c sp carry : Int32} (hsp : 0 ≤ sp.toInt ∧ sp.toInt ≤ 3) : ∀ (k n : Nat) (s acc : Int32), k < n → (k : Int) = sp.toInt + 1 - s.toInt → -3 ≤ s.toInt → f_Hole_waysInto_27_l x n 1 (aimS m c carry) sp acc s = some (wsum (wetS m c carry) k s acc) := by
  intro k
  induction k with
  | zero =>
    intro n s acc hn hk hs
    obtain ⟨n, rfl⟩ : ∃ j, n = j + 1 := ⟨n - 1, by omega⟩
    have e : sp < s := by (simp only [ti_lt, ti_le, ti_eq, ti_add, ti_sub, ti_neg, ti_lt64, ti_le64, ti_eq64, ti_wide, Int32.reduceToInt, Int64.reduceToInt] at * <;> omega)
    show f_Hole_waysInto_27 (f_Hole_waysInto_27_l x n) x 1 (aimS m c carry) sp acc s = _
    simp only [f_Hole_waysInto_85, f_Hole_waysInto_76, f_Hole_waysInto_75, f_Hole_waysInto_71, f_Hole_waysInto_68, f_Hole_waysInto_62, f_Hole_waysInto_59, f_Hole_waysInto_56, f_Hole_waysInto_50, f_Hole_waysInto_42, f_Hole_waysInto_34, f_Hole_waysInto_27, f_Hole_waysInto_17, f_Hole_waysInto_10, f_Hole_waysInto_7, f_Hole_waysInto, if_pos e, wsum]
  | succ k ih =>
    intro n s acc hn hk hs
    obtain ⟨n, rfl⟩ : ∃ j, n = j + 1 := ⟨n - 1, by omega⟩
    have e : ¬ sp < s := by (simp only [ti_lt, ti_le, ti_eq, ti_add, ti_sub, ti_neg, ti_lt64, ti_le64, ti_eq64, ti_wide, Int32.reduceToInt, Int64.reduceToInt] at * <;> omega)
    have e1 := ti_add s 1
    have z1 : ¬ (1 : Int32) = 0 := by decide
    have hd : heldS (aimS m c carry + s) = downS m c carry s := rfl
    show f_Hole_waysInto_27 (f_Hole_waysInto_27_l x n) x 1 (aimS m c carry) sp acc s = _
    simp only [f_Hole_waysInto_85, f_Hole_waysInto_76, f_Hole_waysInto_75, f_Hole_waysInto_71, f_Hole_waysInto_68, f_Hole_waysInto_62, f_Hole_waysInto_59, f_Hole_waysInto_56, f_Hole_waysInto_50, f_Hole_waysInto_42, f_Hole_waysInto_34, f_Hole_waysInto_27, f_Hole_waysInto_17, f_Hole_waysInto_10, f_Hole_waysInto_7, f_Hole_waysInto, if_neg e, if_neg z1, v_Hole_held, hd, v_Hole_isWater hR, downS_cell, Bool.true_and, Option.bind_some, wsum]
    have i1 := fun acc => ih n (s + 1) acc (by omega) (by (simp only [ti_lt, ti_le, ti_eq, ti_add, ti_sub, ti_neg, ti_lt64, ti_le64, ti_eq64, ti_wide, Int32.reduceToInt, Int64.reduceToInt] at * <;> omega)) (by (simp only [ti_lt, ti_le, ti_eq, ti_add, ti_sub, ti_neg, ti_lt64, ti_le64, ti_eq64, ti_wide, Int32.reduceToInt, Int64.reduceToInt] at * <;> omega))
    simp only [i1, wetS]
    split <;> rfl
theorem l_Hole_grn {x m : am_H} (hR : RH x m) {c sp carry : Int32} (hsp : 0 ≤ sp.toInt ∧ sp.toInt ≤ 3) : ∀ (k n : Nat) (s acc : Int32), k < n → (k : Int) = sp.toInt + 1 - s.toInt → -3 ≤ s.toInt → f_Hole_waysInto_27_l x n 0 (aimS m c carry) sp acc s = some (wsum (grnS m c carry) k s acc) := by
  intro k
  induction k with
  | zero =>
    intro n s acc hn hk hs
    obtain ⟨n, rfl⟩ : ∃ j, n = j + 1 := ⟨n - 1, by omega⟩
    have e : sp < s := by (simp only [ti_lt, ti_le, ti_eq, ti_add, ti_sub, ti_neg, ti_lt64, ti_le64, ti_eq64, ti_wide, Int32.reduceToInt, Int64.reduceToInt] at * <;> omega)
    show f_Hole_waysInto_27 (f_Hole_waysInto_27_l x n) x 0 (aimS m c carry) sp acc s = _
    simp only [f_Hole_waysInto_85, f_Hole_waysInto_76, f_Hole_waysInto_75, f_Hole_waysInto_71, f_Hole_waysInto_68, f_Hole_waysInto_62, f_Hole_waysInto_59, f_Hole_waysInto_56, f_Hole_waysInto_50, f_Hole_waysInto_42, f_Hole_waysInto_34, f_Hole_waysInto_27, f_Hole_waysInto_17, f_Hole_waysInto_10, f_Hole_waysInto_7, f_Hole_waysInto, if_pos e, wsum]
  | succ k ih =>
    intro n s acc hn hk hs
    obtain ⟨n, rfl⟩ : ∃ j, n = j + 1 := ⟨n - 1, by omega⟩
    have e : ¬ sp < s := by (simp only [ti_lt, ti_le, ti_eq, ti_add, ti_sub, ti_neg, ti_lt64, ti_le64, ti_eq64, ti_wide, Int32.reduceToInt, Int64.reduceToInt] at * <;> omega)
    have e1 := ti_add s 1
    have hd : heldS (aimS m c carry + s) = downS m c carry s := rfl
    show f_Hole_waysInto_27 (f_Hole_waysInto_27_l x n) x 0 (aimS m c carry) sp acc s = _
    simp only [f_Hole_waysInto_85, f_Hole_waysInto_76, f_Hole_waysInto_75, f_Hole_waysInto_71, f_Hole_waysInto_68, f_Hole_waysInto_62, f_Hole_waysInto_59, f_Hole_waysInto_56, f_Hole_waysInto_50, f_Hole_waysInto_42, f_Hole_waysInto_34, f_Hole_waysInto_27, f_Hole_waysInto_17, f_Hole_waysInto_10, f_Hole_waysInto_7, f_Hole_waysInto, if_neg e, if_true, v_Hole_held, hd, v_Hole_isGreen hR, downS_cell, Bool.true_and, Option.bind_some, wsum]
    have i1 := fun acc => ih n (s + 1) acc (by omega) (by (simp only [ti_lt, ti_le, ti_eq, ti_add, ti_sub, ti_neg, ti_lt64, ti_le64, ti_eq64, ti_wide, Int32.reduceToInt, Int64.reduceToInt] at * <;> omega)) (by (simp only [ti_lt, ti_le, ti_eq, ti_add, ti_sub, ti_neg, ti_lt64, ti_le64, ti_eq64, ti_wide, Int32.reduceToInt, Int64.reduceToInt] at * <;> omega))
    simp only [i1, grnS]
    split <;> rfl
def wetN (m : am_H) (from_ c : Int32) : Int32 := wsum (wetS m from_ (caS m c)) (spN (spS m c)) (-spS m c) 0
def grnN (m : am_H) (from_ c : Int32) : Int32 := wsum (grnS m from_ (caS m c)) (spN (spS m c)) (-spS m c) 0
theorem v_Hole_wet {x m : am_H} (hR : RH x m) (hV : VM m) {from_ c : Int32} (hf : cellB from_ = true) (hc : clubB m c = true) : f_Hole_waysInto x 1 from_ c = some (wetN m from_ c) := by
  have hsp := spS_b hV hc
  have e := ti_neg (spS m c)
  simp only [f_Hole_waysInto_85, f_Hole_waysInto_76, f_Hole_waysInto_75, f_Hole_waysInto_71, f_Hole_waysInto_68, f_Hole_waysInto_62, f_Hole_waysInto_59, f_Hole_waysInto_56, f_Hole_waysInto_50, f_Hole_waysInto_42, f_Hole_waysInto_34, f_Hole_waysInto_27, f_Hole_waysInto_17, f_Hole_waysInto_10, f_Hole_waysInto_7, f_Hole_waysInto, v_Hole_carryOf hR hV hc, v_Hole_spreadOf hR hV hc, v_Hole_aim hR hf, Option.bind_some]
  exact l_Hole_wet hR hsp _ _ _ _ (by unfold spN am_fu; omega) (by unfold spN; omega) (by omega)
theorem v_Hole_grn {x m : am_H} (hR : RH x m) (hV : VM m) {from_ c : Int32} (hf : cellB from_ = true) (hc : clubB m c = true) : f_Hole_waysInto x 0 from_ c = some (grnN m from_ c) := by
  have hsp := spS_b hV hc
  have e := ti_neg (spS m c)
  simp only [f_Hole_waysInto_85, f_Hole_waysInto_76, f_Hole_waysInto_75, f_Hole_waysInto_71, f_Hole_waysInto_68, f_Hole_waysInto_62, f_Hole_waysInto_59, f_Hole_waysInto_56, f_Hole_waysInto_50, f_Hole_waysInto_42, f_Hole_waysInto_34, f_Hole_waysInto_27, f_Hole_waysInto_17, f_Hole_waysInto_10, f_Hole_waysInto_7, f_Hole_waysInto, v_Hole_carryOf hR hV hc, v_Hole_spreadOf hR hV hc, v_Hole_aim hR hf, Option.bind_some]
  exact l_Hole_grn hR hsp _ _ _ _ (by unfold spN am_fu; omega) (by unfold spN; omega) (by omega)
theorem l_Model_wet {m : am_H} (hV : VM m) {from_ c : Int32} (hf : cellB from_ = true) (hc : clubB m c = true) : ∀ (k n : Nat) (s acc : Int32), k < n → (k : Int) = (spS m c).toInt + 1 - s.toInt → -3 ≤ s.toInt → f_Model_wetWays_14_l m n from_ c acc s = some (wsum (wetS m from_ (caS m c)) k s acc) := by
  have hsp := spS_b hV hc
  obtain ⟨⟨a1, a2⟩, ⟨a3, a4⟩, -, -⟩ := at_club hV hc
  intro k
  induction k with
  | zero =>
    intro n s acc hn hk hs
    obtain ⟨n, rfl⟩ : ∃ j, n = j + 1 := ⟨n - 1, by omega⟩
    have e : spS m c < s := by (simp only [ti_lt, ti_le, ti_eq, ti_add, ti_sub, ti_neg, ti_lt64, ti_le64, ti_eq64, ti_wide, Int32.reduceToInt, Int64.reduceToInt] at * <;> omega)
    show f_Model_wetWays_14 (f_Model_wetWays_14_l m n) m from_ c acc s = _
    simp only [f_Model_wetWays_65, f_Model_wetWays_57, f_Model_wetWays_56, f_Model_wetWays_52, f_Model_wetWays_49, f_Model_wetWays_46, f_Model_wetWays_28, f_Model_wetWays_14, f_Model_wetWays, a1, a2, a3, a4, if_true, if_pos e, wsum]
  | succ k ih =>
    intro n s acc hn hk hs
    obtain ⟨n, rfl⟩ : ∃ j, n = j + 1 := ⟨n - 1, by omega⟩
    have e : ¬ spS m c < s := by (simp only [ti_lt, ti_le, ti_eq, ti_add, ti_sub, ti_neg, ti_lt64, ti_le64, ti_eq64, ti_wide, Int32.reduceToInt, Int64.reduceToInt] at * <;> omega)
    have e1 := ti_add s 1
    show f_Model_wetWays_14 (f_Model_wetWays_14_l m n) m from_ c acc s = _
    simp only [f_Model_wetWays_65, f_Model_wetWays_57, f_Model_wetWays_56, f_Model_wetWays_52, f_Model_wetWays_49, f_Model_wetWays_46, f_Model_wetWays_28, f_Model_wetWays_14, f_Model_wetWays, a1, a2, a3, a4, if_true, if_neg e, v_Model_downOf m hf, v_Model_isWater m (downS_cell m from_ (caS m c) s), Option.bind_some, wsum]
    have i1 := fun acc => ih n (s + 1) acc (by omega) (by (simp only [ti_lt, ti_le, ti_eq, ti_add, ti_sub, ti_neg, ti_lt64, ti_le64, ti_eq64, ti_wide, Int32.reduceToInt, Int64.reduceToInt] at * <;> omega)) (by (simp only [ti_lt, ti_le, ti_eq, ti_add, ti_sub, ti_neg, ti_lt64, ti_le64, ti_eq64, ti_wide, Int32.reduceToInt, Int64.reduceToInt] at * <;> omega))
    simp only [i1, wetS]
    split <;> rfl
theorem l_Model_grn {m : am_H} (hV : VM m) {from_ c : Int32} (hf : cellB from_ = true) (hc : clubB m c = true) : ∀ (k n : Nat) (s acc : Int32), k < n → (k : Int) = (spS m c).toInt + 1 - s.toInt → -3 ≤ s.toInt → f_Model_greenWays_14_l m n from_ c acc s = some (wsum (grnS m from_ (caS m c)) k s acc) := by
  have hsp := spS_b hV hc
  obtain ⟨⟨a1, a2⟩, ⟨a3, a4⟩, -, -⟩ := at_club hV hc
  intro k
  induction k with
  | zero =>
    intro n s acc hn hk hs
    obtain ⟨n, rfl⟩ : ∃ j, n = j + 1 := ⟨n - 1, by omega⟩
    have e : spS m c < s := by (simp only [ti_lt, ti_le, ti_eq, ti_add, ti_sub, ti_neg, ti_lt64, ti_le64, ti_eq64, ti_wide, Int32.reduceToInt, Int64.reduceToInt] at * <;> omega)
    show f_Model_greenWays_14 (f_Model_greenWays_14_l m n) m from_ c acc s = _
    simp only [f_Model_greenWays_65, f_Model_greenWays_57, f_Model_greenWays_56, f_Model_greenWays_52, f_Model_greenWays_49, f_Model_greenWays_46, f_Model_greenWays_28, f_Model_greenWays_14, f_Model_greenWays, a1, a2, a3, a4, if_true, if_pos e, wsum]
  | succ k ih =>
    intro n s acc hn hk hs
    obtain ⟨n, rfl⟩ : ∃ j, n = j + 1 := ⟨n - 1, by omega⟩
    have e : ¬ spS m c < s := by (simp only [ti_lt, ti_le, ti_eq, ti_add, ti_sub, ti_neg, ti_lt64, ti_le64, ti_eq64, ti_wide, Int32.reduceToInt, Int64.reduceToInt] at * <;> omega)
    have e1 := ti_add s 1
    show f_Model_greenWays_14 (f_Model_greenWays_14_l m n) m from_ c acc s = _
    simp only [f_Model_greenWays_65, f_Model_greenWays_57, f_Model_greenWays_56, f_Model_greenWays_52, f_Model_greenWays_49, f_Model_greenWays_46, f_Model_greenWays_28, f_Model_greenWays_14, f_Model_greenWays, a1, a2, a3, a4, if_true, if_neg e, v_Model_downOf m hf, v_Model_isGreen m (downS_cell m from_ (caS m c) s), Option.bind_some, wsum]
    have i1 := fun acc => ih n (s + 1) acc (by omega) (by (simp only [ti_lt, ti_le, ti_eq, ti_add, ti_sub, ti_neg, ti_lt64, ti_le64, ti_eq64, ti_wide, Int32.reduceToInt, Int64.reduceToInt] at * <;> omega)) (by (simp only [ti_lt, ti_le, ti_eq, ti_add, ti_sub, ti_neg, ti_lt64, ti_le64, ti_eq64, ti_wide, Int32.reduceToInt, Int64.reduceToInt] at * <;> omega))
    simp only [i1, grnS]
    split <;> rfl
theorem v_Model_wet {m : am_H} (hV : VM m) {from_ c : Int32} (hf : cellB from_ = true) (hc : clubB m c = true) : f_Model_wetWays m from_ c = some (wetN m from_ c) := by
  have hsp := spS_b hV hc
  have e := ti_neg (spS m c)
  obtain ⟨-, ⟨a3, a4⟩, -, -⟩ := at_club hV hc
  simp only [f_Model_wetWays_65, f_Model_wetWays_57, f_Model_wetWays_56, f_Model_wetWays_52, f_Model_wetWays_49, f_Model_wetWays_46, f_Model_wetWays_28, f_Model_wetWays_14, f_Model_wetWays, a3, a4, if_true]
  exact l_Model_wet hV hf hc _ _ _ _ (by unfold spN am_fu; omega) (by unfold spN; omega) (by omega)
theorem v_Model_grn {m : am_H} (hV : VM m) {from_ c : Int32} (hf : cellB from_ = true) (hc : clubB m c = true) : f_Model_greenWays m from_ c = some (grnN m from_ c) := by
  have hsp := spS_b hV hc
  have e := ti_neg (spS m c)
  obtain ⟨-, ⟨a3, a4⟩, -, -⟩ := at_club hV hc
  simp only [f_Model_greenWays_65, f_Model_greenWays_57, f_Model_greenWays_56, f_Model_greenWays_52, f_Model_greenWays_49, f_Model_greenWays_46, f_Model_greenWays_28, f_Model_greenWays_14, f_Model_greenWays, a3, a4, if_true]
  exact l_Model_grn hV hf hc _ _ _ _ (by unfold spN am_fu; omega) (by unfold spN; omega) (by omega)
theorem bitN_b {m : am_H} (hV : VM m) {c : Int32} (hc : clubB m c = true) {f : Int32 → Int32} (hf : ∀ s, 0 ≤ (f s).toInt ∧ (f s).toInt ≤ 1) : 0 ≤ (wsum f (spN (spS m c)) (-spS m c) 0).toInt ∧ (wsum f (spN (spS m c)) (-spS m c) 0).toInt ≤ 7 := by
  have h1 := spN_b hV hc
  have h3 : (0 : Int32).toInt = 0 := rfl
  have h2 := wsum_b hf (spN (spS m c)) (-spS m c) 0 (by decide) (by omega)
  omega
theorem wetN_b {m : am_H} (hV : VM m) {from_ c : Int32} (hc : clubB m c = true) : 0 ≤ (wetN m from_ c).toInt ∧ (wetN m from_ c).toInt ≤ 7 := bitN_b hV hc (fun s => by unfold wetS; split <;> decide)
theorem grnN_b {m : am_H} (hV : VM m) {from_ c : Int32} (hc : clubB m c = true) : 0 ≤ (grnN m from_ c).toInt ∧ (grnN m from_ c).toInt ≤ 7 := bitN_b hV hc (fun s => by unfold grnS; split <;> decide)
theorem E_chance {x m : am_H} (hR : RH x m) (hV : VM m) (cc what part : Int32) : ∃ r, f_Club_chance x cc what part = some r ∧ f_Model_chance m cc what part = some r := by
  simp only [f_Club_chance_24, f_Club_chance_71, f_Club_chance_66, f_Club_chance_56, f_Club_chance_47, f_Club_chance_46, f_Club_chance_42, f_Club_chance_28, f_Club_chance_21, f_Club_chance_17, f_Club_chance_12, f_Club_chance_8, f_Club_chance_5, f_Club_chance, f_Model_chance_28, f_Model_chance_89, f_Model_chance_63, f_Model_chance_51, f_Model_chance_48, f_Model_chance_36, f_Model_chance_32, f_Model_chance_25, f_Model_chance_18, f_Model_chance_15, f_Model_chance_8, f_Model_chance_5, f_Model_chance, v_Club_isShot hR hV, v_Model_isCc hV, Option.bind_some, v_Club_isFractionPart, v_Model_within32, Int64.reduceToInt]
  cases h1 : ccB m cc with
  | false => exact ⟨_, rfl, rfl⟩
  | true =>
    obtain ⟨k1, k2, k3⟩ := ccB_iff h1
    by_cases h2 : decide (0 ≤ what.toInt ∧ what.toInt ≤ 1) = true
    · have w1 : ¬ what < 0 := by rw [decide_eq_true_iff] at h2; (simp only [ti_lt, ti_le, ti_eq, ti_add, ti_sub, ti_neg, ti_lt64, ti_le64, ti_eq64, ti_wide, Int32.reduceToInt, Int64.reduceToInt] at * <;> omega)
      have w2 : ¬ 1 < what := by rw [decide_eq_true_iff] at h2; (simp only [ti_lt, ti_le, ti_eq, ti_add, ti_sub, ti_neg, ti_lt64, ti_le64, ti_eq64, ti_wide, Int32.reduceToInt, Int64.reduceToInt] at * <;> omega)
      cases h3 : decide (0 ≤ part.toInt ∧ part.toInt ≤ 1) with
      | false => exact ⟨_, by simp only [w1, w2, if_true, if_false, Bool.false_eq_true] <;> rfl, by simp only [h2, if_true] <;> rfl⟩
      | true =>
        obtain ⟨⟨a1, a2⟩, ⟨a3, a4⟩, -, -⟩ := at_club hV k2
        by_cases h4 : what = 0
        · subst h4
          obtain ⟨r, r1, r2⟩ := p_ways hV k2 (wetN_b (from_ := cc / 10) hV k2) (part_b h3)
          refine ⟨r, ?_, ?_⟩
          · simp only [if_true, if_false, Bool.false_eq_true, w1, w2, v_Hole_wet hR hV k1 k2, Option.bind_some, v_Hole_waysOf hR hV k2, r1]
          · simp only [if_true, h2, a1, a2, a3, a4, v_Model_wet hV k1 k2, Option.bind_some, r2]
        · obtain ⟨r, r1, r2⟩ := p_ways hV k2 (grnN_b (from_ := cc / 10) hV k2) (part_b h3)
          refine ⟨r, ?_, ?_⟩
          · simp only [if_true, if_false, Bool.false_eq_true, w1, w2, h4, v_Hole_grn hR hV k1 k2, Option.bind_some, v_Hole_waysOf hR hV k2, r1]
          · simp only [if_true, if_false, Bool.false_eq_true, h2, h4, a1, a2, a3, a4, v_Model_grn hV k1 k2, Option.bind_some, r2]
    · have h2' : decide (0 ≤ what.toInt ∧ what.toInt ≤ 1) = false := by simpa using h2
      refine ⟨-9223372036854775808, ?_, by simp only [h2', if_true] <;> rfl⟩
      have h5 : what < 0 ∨ 1 < what := by
        rw [decide_eq_true_iff] at h2
        simp only [ti_lt, ti_le, ti_eq, ti_add, ti_sub, ti_neg, ti_lt64, ti_le64, ti_eq64, ti_wide, Int32.reduceToInt, Int64.reduceToInt]
        omega
      by_cases w1 : what < 0
      · simp only [w1, if_true]
      · have w2 : 1 < what := h5.resolve_left w1
        simp only [w1, w2, if_true, if_false, Bool.false_eq_true]
