/-! one shot by a club, then as the row with one shot less says -/
def Un (n : Nat) : Int64 := ([12, 1260, 132300, 13891500, 1458607500] : List Int64).getD n 0
def wU (m : am_H) (u : Int64) (cell carry s : Int32) : Int64 := if waB m (downS m cell carry s) = true then u else 0
def sumC (m : am_H) (row : Int32 → Int64) (u : Int64) (cell carry : Int32) : Nat → Int32 → Int64 → Int64
  | 0, _, acc => acc
  | k + 1, s, acc => sumC m row u cell carry k (s + 1) (acc + (row (restS m cell carry s) + wU m u cell carry s))
def cU (m : am_H) (u : Int64) (cell carry s : Int32) : Int64 := if waB m (downS m cell carry s) = true then 2 * u else 1 * u
def sumM (m : am_H) (row : Int32 → Int64) (u : Int64) (cell carry : Int32) : Nat → Int32 → Int64 → Int64
  | 0, _, acc => acc
  | k + 1, s, acc => sumM m row u cell carry k (s + 1) (acc + (cU m u cell carry s + row (restS m cell carry s)))
def byC (m : am_H) (row : Int32 → Int64) (n : Nat) (cell c : Int32) : Int64 := Un n + sumC m row (Un (n - 1)) cell (caS m c) (spN (spS m c)) (-spS m c) 0 * (tv_SHARES (spS m c)).toInt64
theorem restS_cell {m : am_H} {cell : Int32} (hc : cellB cell = true) (carry s : Int32) : cellB (restS m cell carry s) = true := by
  unfold restS; split
  · exact hc
  · exact downS_cell _ _ _ _
theorem v_Reck_unit {n : Int32} (h : 0 ≤ n.toInt ∧ n.toInt ≤ 4) : f_Reck_unit n = some (Un n.toNatClampNeg) := by
  have z0 : (0 : Int32).toInt = 0 := rfl
  have z5 : (5 : Int32).toInt = 5 := rfl
  have h1 : ¬ n < 0 := by rw [ti_lt]; omega
  have h2 : ¬ 5 ≤ n := by rw [ti_le]; omega
  simp only [f_Reck_unit_20, f_Reck_unit_12, f_Reck_unit_4, f_Reck_unit, if_neg h1, if_neg h2, ok_of (i := n) (n := 5) (by omega), if_true]
  rfl
theorem at_row {n c : Int32} (hn : 1 ≤ n.toInt ∧ n.toInt ≤ 4) (hc : cellB c = true) : ((n - 1) * 31 + c).toInt = 31 * (n.toInt - 1) + c.toInt ∧ (31 * (n - 1) + c).toInt = 31 * (n.toInt - 1) + c.toInt ∧ ((n - 1) * 31 + c).toNatClampNeg = 31 * (n.toNatClampNeg - 1) + c.toNatClampNeg ∧ (31 * (n - 1) + c).toNatClampNeg = 31 * (n.toNatClampNeg - 1) + c.toNatClampNeg ∧ (n - 1).toInt = n.toInt - 1 ∧ (n - 1).toNatClampNeg = n.toNatClampNeg - 1 := by
  have h1 := cellB_iff.mp hc
  have z1 : (1 : Int32).toInt = 1 := rfl
  have z31 : (31 : Int32).toInt = 31 := rfl
  have e1 := ti_sub n 1
  rw [z1] at e1
  have e2 : (n - 1).toInt = n.toInt - 1 := by omega
  have e3 := ti_mul (n - 1) 31
  rw [z31, e2] at e3
  have e4 : ((n - 1) * 31).toInt = 31 * (n.toInt - 1) := by omega
  have e5 := ti_mul 31 (n - 1)
  rw [z31, e2] at e5
  have e6 : (31 * (n - 1)).toInt = 31 * (n.toInt - 1) := by omega
  have e7 := ti_add ((n - 1) * 31) c
  have e8 := ti_add (31 * (n - 1)) c
  rw [e4] at e7
  rw [e6] at e8
  have e9 : ((n - 1) * 31 + c).toInt = 31 * (n.toInt - 1) + c.toInt := by omega
  have e10 : (31 * (n - 1) + c).toInt = 31 * (n.toInt - 1) + c.toInt := by omega
  refine ⟨e9, e10, ?_, ?_, e2, ?_⟩
  · rw [ti_nat, e9, ti_nat, ti_nat]; omega
  · rw [ti_nat, e10, ti_nat, ti_nat]; omega
  · rw [ti_nat, e2, ti_nat]; omega
theorem l_Reck_sum {x m : am_H} (hR : RH x m) {cell carry n sp : Int32} {p : Nat} {row : Int32 → Int64} (hc : cellB cell = true) (hn : 1 ≤ n.toInt ∧ n.toInt ≤ 4) (hsp : 0 ≤ sp.toInt ∧ sp.toInt ≤ 3) (hrow : ∀ c, cellB c = true → x.2 p (31 * (n.toNatClampNeg - 1) + c.toNatClampNeg) = row c) : ∀ (k f : Nat) (s : Int32) (acc : Int64), k < f → (k : Int) = sp.toInt + 1 - s.toInt → -3 ≤ s.toInt →
    f_Reck_meanByClub_55_l x f cell n p 155 sp (aimS m cell carry) acc s = f_Reck_meanByClub_148 x n sp (sumC m row (Un (n.toNatClampNeg - 1)) cell carry k s acc) := by
  intro k
  induction k with
  | zero =>
    intro f s acc hf hk hs
    obtain ⟨f, rfl⟩ : ∃ j, f = j + 1 := ⟨f - 1, by omega⟩
    have e : sp < s := by rw [ti_lt]; omega
    show f_Reck_meanByClub_55 (f_Reck_meanByClub_55_l x f) x cell n p 155 sp (aimS m cell carry) acc s = _
    simp only [f_Reck_meanByClub_55, if_pos e, sumC]
  | succ k ih =>
    intro f s acc hf hk hs
    obtain ⟨f, rfl⟩ : ∃ j, f = j + 1 := ⟨f - 1, by omega⟩
    have e : ¬ sp < s := by rw [ti_lt]; omega
    have e1 := ti_add s 1
    have z1 : (1 : Int32).toInt = 1 := rfl
    rw [z1] at e1
    have hd : heldS (aimS m cell carry + s) = downS m cell carry s := rfl
    have hdc := downS_cell m cell carry s
    show f_Reck_meanByClub_55 (f_Reck_meanByClub_55_l x f) x cell n p 155 sp (aimS m cell carry) acc s = _
    simp only [f_Reck_meanByClub_55, f_Reck_meanByClub_62, f_Reck_meanByClub_70, f_Reck_meanByClub_81, f_Reck_meanByClub_94, f_Reck_meanByClub_98, f_Reck_meanByClub_100, f_Reck_meanByClub_108, f_Reck_meanByClub_116, f_Reck_meanByClub_128, f_Reck_meanByClub_134, f_Reck_meanByClub_137, f_Reck_meanByClub_138, f_Reck_meanByClub_142, if_neg e, v_Hole_held, hd, v_Hole_isWater hR, hdc, Bool.true_and, Option.bind_some]
    have i1 := fun acc => ih f (s + 1) acc (by omega) (by omega) (by omega)
    simp only [i1, sumC]
    have z155 : (Int32.ofNat 155).toInt = 155 := rfl
    have z0 : (0 : Int32).toInt = 0 := rfl
    have hun : f_Reck_unit (n - 1) = some (Un (n.toNatClampNeg - 1)) := by
      obtain ⟨-, -, -, -, a5, a6⟩ := at_row hn hc
      rw [v_Reck_unit (by omega), a6]
    cases w : waB m (downS m cell carry s) with
    | true =>
      obtain ⟨a1, -, a3, -, -, -⟩ := at_row hn hc
      have h1 := cellB_iff.mp hc
      have b1 : ¬ (n - 1) * 31 + cell < 0 := by rw [ti_lt]; omega
      have b2 : ¬ Int32.ofNat 155 ≤ (n - 1) * 31 + cell := by rw [ti_le]; omega
      have b3 : am_ok ((n - 1) * 31 + cell) 155 = true := ok_of (by omega)
      simp only [w, b1, b2, b3, if_true, if_false, a3, hrow cell hc, hun, Option.bind_some, restS, wU]
    | false =>
      obtain ⟨a1, -, a3, -, -, -⟩ := at_row hn hdc
      have h1 := cellB_iff.mp hdc
      have b1 : ¬ (n - 1) * 31 + downS m cell carry s < 0 := by rw [ti_lt]; omega
      have b2 : ¬ Int32.ofNat 155 ≤ (n - 1) * 31 + downS m cell carry s := by rw [ti_le]; omega
      have b3 : am_ok ((n - 1) * 31 + downS m cell carry s) 155 = true := ok_of (by omega)
      simp only [w, b1, b2, b3, if_true, if_false, Bool.false_eq_true, a3, hrow _ hdc, restS, wU]
theorem v_Reck_meanBy {x m : am_H} (hR : RH x m) (hV : VM m) {cell c n : Int32} {p : Nat} {row : Int32 → Int64} (hc : cellB cell = true) (hcl : clubB m c = true) (hn : 1 ≤ n.toInt ∧ n.toInt ≤ 4) (hrow : ∀ c, cellB c = true → x.2 p (31 * (n.toNatClampNeg - 1) + c.toNatClampNeg) = row c) : f_Reck_meanByClub_17 x cell c n p 155 = some (byC m row n.toNatClampNeg cell c) := by
  have hsp := spS_b hV hcl
  have e := ti_neg (spS m c)
  have z0 : (0 : Int32).toInt = 0 := rfl
  have z4 : (4 : Int32).toInt = 4 := rfl
  have b1 : ¬ spS m c < 0 := by rw [ti_lt]; omega
  have b2 : ¬ 4 ≤ spS m c := by rw [ti_le]; omega
  simp only [f_Reck_meanByClub_17, f_Reck_meanByClub_27, f_Reck_meanByClub_42, f_Reck_meanByClub_45, v_Hole_spreadOf hR hV hcl, v_Hole_carryOf hR hV hcl, v_Hole_aim hR hc, Option.bind_some]
  rw [l_Reck_sum hR hc hn hsp hrow (spN (spS m c)) am_fu _ _ (by unfold spN am_fu; omega) (by unfold spN; omega) (by omega)]
  simp only [f_Reck_meanByClub_148, f_Reck_meanByClub_152, f_Reck_meanByClub_159, f_Reck_meanByClub_168, f_Reck_meanByClub_178, v_Reck_unit (n := n) (by omega), Option.bind_some, if_neg b1, if_neg b2, ok_of (i := spS m c) (n := 4) (by omega), if_true]
  rfl
theorem l_Model_sum {m : am_H} (hV : VM m) {cell c n : Int32} {row : Int32 → Int64} {u : Int64} (hc : cellB cell = true) (hcl : clubB m c = true) (hn : 1 ≤ n.toInt ∧ n.toInt ≤ 4) (hrow : ∀ c, cellB c = true → m.2 8 (31 * (n.toNatClampNeg - 1) + c.toNatClampNeg) = row c) (hu : m.2 10 (n.toNatClampNeg - 1) = u) : ∀ (k f : Nat) (s : Int32) (acc : Int64), k < f → (k : Int) = (spS m c).toInt + 1 - s.toInt → -3 ≤ s.toInt →
    f_Model_byClub_19_l m f cell n c (spS m c) acc s = f_Model_byClub_108 m (spS m c) (sumM m row u cell (caS m c) k s acc) := by
  have hsp := spS_b hV hcl
  obtain ⟨⟨q1, q2⟩, -, -, -⟩ := at_club hV hcl
  intro k
  induction k with
  | zero =>
    intro f s acc hf hk hs
    obtain ⟨f, rfl⟩ : ∃ j, f = j + 1 := ⟨f - 1, by omega⟩
    have e : spS m c < s := by rw [ti_lt]; omega
    show f_Model_byClub_19 (f_Model_byClub_19_l m f) m cell n c (spS m c) acc s = _
    simp only [f_Model_byClub_19, if_pos e, sumM]
  | succ k ih =>
    intro f s acc hf hk hs
    obtain ⟨f, rfl⟩ : ∃ j, f = j + 1 := ⟨f - 1, by omega⟩
    have e : ¬ spS m c < s := by rw [ti_lt]; omega
    have e1 := ti_add s 1
    have z1 : (1 : Int32).toInt = 1 := rfl
    rw [z1] at e1
    have hdc := downS_cell m cell (caS m c) s
    obtain ⟨-, -, -, -, a5, a6⟩ := at_row hn hc
    have b5 : am_ok (n - 1) 5 = true := ok_of (by omega)
    show f_Model_byClub_19 (f_Model_byClub_19_l m f) m cell n c (spS m c) acc s = _
    simp only [f_Model_byClub_19, f_Model_byClub_26, f_Model_byClub_42, f_Model_byClub_50, f_Model_byClub_59, f_Model_byClub_65, f_Model_byClub_66, f_Model_byClub_90, f_Model_byClub_94, f_Model_byClub_96, if_neg e, q1, q2, if_true, v_Model_downOf m hc, v_Model_isWater m hdc, Option.bind_some, b5, a6, hu]
    have i1 := fun acc => ih f (s + 1) acc (by omega) (by omega) (by omega)
    simp only [i1, sumM]
    cases w : waB m (downS m cell (caS m c) s) with
    | true =>
      obtain ⟨-, a2, -, a4, -, -⟩ := at_row hn hc
      have h1 := cellB_iff.mp hc
      have b3 : am_ok (31 * (n - 1) + cell) 155 = true := ok_of (by omega)
      simp only [w, b3, if_true, a4, hrow cell hc, restS, cU]
    | false =>
      obtain ⟨-, a2, -, a4, -, -⟩ := at_row hn hdc
      have h1 := cellB_iff.mp hdc
      have b3 : am_ok (31 * (n - 1) + downS m cell (caS m c) s) 155 = true := ok_of (by omega)
      simp only [w, b3, if_true, if_false, Bool.false_eq_true, a4, hrow _ hdc, restS, cU]
def kU (u : Int64) : Nat → Int64
  | 0 => 0
  | k + 1 => u + kU u k
theorem two_u (u : Int64) : 2 * u = u + u := by
  have : (2 : Int64) = 1 + 1 := by decide
  rw [this, Int64.add_mul, Int64.one_mul]
theorem sum_MC (m : am_H) (row : Int32 → Int64) (u : Int64) (cell carry : Int32) : ∀ (k : Nat) (s : Int32) (acc d : Int64), sumM m row u cell carry k s (acc + d) = sumC m row u cell carry k s acc + (d + kU u k) := by
  intro k
  induction k with
  | zero => intro s acc d; simp only [sumM, sumC, kU, Int64.add_zero]
  | succ k ih =>
    intro s acc d
    simp only [sumM, sumC, kU]
    have e : acc + d + (cU m u cell carry s + row (restS m cell carry s)) = (acc + (row (restS m cell carry s) + wU m u cell carry s)) + (d + u) := by
      unfold cU wU
      generalize row (restS m cell carry s) = r
      split
      · rw [two_u]; ac_rfl
      · rw [Int64.one_mul, Int64.add_zero]; ac_rfl
    rw [e, ih]
    congr 1
    ac_rfl
theorem shares {m : am_H} (hV : VM m) {c : Int32} (hcl : clubB m c = true) {n : Nat} (hn : 1 ≤ n ∧ n ≤ 4) : kU (Un (n - 1)) (spN (spS m c)) * (105 / (2 * spS m c + 1)).toInt64 = Un n ∧ (105 / (2 * spS m c + 1)).toInt64 = (tv_SHARES (spS m c)).toInt64 := by
  have hsp := spS_b hV hcl
  have : spS m c = 0 ∨ spS m c = 1 ∨ spS m c = 2 ∨ spS m c = 3 := by
    rw [ti_eq, ti_eq, ti_eq, ti_eq]
    have z0 : (0 : Int32).toInt = 0 := rfl
    have z1 : (1 : Int32).toInt = 1 := rfl
    have z2 : (2 : Int32).toInt = 2 := rfl
    have z3 : (3 : Int32).toInt = 3 := rfl
    omega
  have hn4 : n = 1 ∨ n = 2 ∨ n = 3 ∨ n = 4 := by omega
  rcases this with h | h | h | h <;> rw [h] <;> rcases hn4 with rfl | rfl | rfl | rfl <;> decide +kernel
theorem v_Model_byClub {m : am_H} (hV : VM m) {cell c n : Int32} {row : Int32 → Int64} (hc : cellB cell = true) (hcl : clubB m c = true) (hn : 1 ≤ n.toInt ∧ n.toInt ≤ 4) (hrow : ∀ c, cellB c = true → m.2 8 (31 * (n.toNatClampNeg - 1) + c.toNatClampNeg) = row c) (hu : m.2 10 (n.toNatClampNeg - 1) = Un (n.toNatClampNeg - 1)) : f_Model_byClub m cell n c = some (byC m row n.toNatClampNeg cell c) := by
  have hsp := spS_b hV hcl
  have e := ti_neg (spS m c)
  obtain ⟨-, ⟨q3, q4⟩, -, -⟩ := at_club hV hcl
  have hn2 : 1 ≤ n.toNatClampNeg ∧ n.toNatClampNeg ≤ 4 := by rw [ti_nat]; omega
  obtain ⟨s1, s2⟩ := shares hV hcl hn2
  simp only [f_Model_byClub, q3, q4, if_true]
  rw [l_Model_sum hV hc hcl hn hrow hu (spN (spS m c)) am_fu _ _ (by unfold spN am_fu; omega) (by unfold spN; omega) (by omega)]
  simp only [f_Model_byClub_108, if_pos (odd_pos hV hcl).2]
  have h0 : (0 : Int64) = 0 + 0 := by decide
  have h1 : sumM m row (Un (n.toNatClampNeg - 1)) cell (caS m c) (spN (spS m c)) (-spS m c) 0 = sumC m row (Un (n.toNatClampNeg - 1)) cell (caS m c) (spN (spS m c)) (-spS m c) 0 + (0 + kU (Un (n.toNatClampNeg - 1)) (spN (spS m c))) := by
    rw [← sum_MC, ← h0]
  rw [h1, Int64.zero_add, Int64.add_mul, s1, s2, Int64.add_comm]
  rfl
