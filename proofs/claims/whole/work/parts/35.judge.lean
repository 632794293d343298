/-! JUDGE -/
/-- the three numbers of a told shot -/
def thS (m : am_H) (d j t : Int32) : Int64 := m.2 18 (60 * d.toNatClampNeg + (3 * j + t).toNatClampNeg)
theorem th_at {x m : am_H} (hS : RS x m) {d j t : Int32} (hd : shelfB d = true) (h50 : m.1 16 d.toNatClampNeg = 50) (hj : 0 ≤ j.toInt) (ht : 0 ≤ t.toInt ∧ t.toInt ≤ 2) (hl : 3 * j.toInt + t.toInt < (m.1 17 d.toNatClampNeg).toInt) :
    (3 * j + t).toInt = 3 * j.toInt + t.toInt ∧ f_Shelf_read x (31 + 2 * d.toNatClampNeg) (3 * j + t) = some (thS m d j t) ∧ am_ok (60 * d + 3 * j + t) 360 = true ∧ m.2 18 (60 * d + 3 * j + t).toNatClampNeg = thS m d j t ∧ (thS m d j t).toInt32.toInt = (thS m d j t).toInt := by
  have z3 : (3 : Int32).toInt = 3 := rfl
  obtain ⟨s1, s2, s3, s4⟩ := shelf_at hd
  have hS1 := hS d.toNatClampNeg s1
  have hL := hS1.2.1
  have hL2 := hS1.2.2.1
  have t3 : (3 * j).toInt = 3 * j.toInt := by rw [ti_mul, z3]; omega
  have t4 : (3 * j + t).toInt = 3 * j.toInt + t.toInt := by rw [ti_add]; omega
  obtain ⟨o1, o2⟩ := ix3 (d := d) (i := 3 * j) (k := t) hd (by omega) ht.1 (by omega)
  have o3 : (60 * d + 3 * j + t).toNatClampNeg = 60 * d.toNatClampNeg + (3 * j + t).toNatClampNeg := by
    rw [o2]
    rw [ti_nat (3 * j), ti_nat t, ti_nat (3 * j + t)]
    omega
  have hB := hS1.2.2.2.2.2 h50 (3 * j + t).toNatClampNeg (by rw [ti_nat]; omega)
  refine ⟨t4, p_read s1 hS1 (by omega), o1, by rw [o3]; rfl, ?_⟩
  exact tl_32 (by unfold thS; omega)
/-- is it a shot that can be told of? -/
def thB (m : am_H) (d j : Int32) : Bool := cellB (thS m d j 0).toInt32 && (clubB m (thS m d j 1).toInt32 && (cellB (thS m d j 2).toInt32 && !grB m (thS m d j 0).toInt32))
theorem add_00 (a : Int32) : a + 0 = a := by
  have z0 : (0 : Int32).toInt = 0 := rfl
  have := ti_lo a
  have := ti_hi a
  rw [ti_eq, ti_add]; omega
theorem v_isThree {x m : am_H} (hV : VM m) (hS : RS x m) {d j : Int32} (hd : shelfB d = true) (h50 : m.1 16 d.toNatClampNeg = 50) (hj : 0 ≤ j.toInt) (hl : 3 * j.toInt + 2 < (m.1 17 d.toNatClampNeg).toInt) : f_Model_isThree m d j = some (thB m d j) := by
  have z0 : (0 : Int32).toInt = 0 := rfl
  have z1 : (1 : Int32).toInt = 1 := rfl
  have z2 : (2 : Int32).toInt = 2 := rfl
  obtain ⟨s1, s2, s3, s4⟩ := shelf_at hd
  obtain ⟨a1, a2, a3, a4, a5⟩ := th_at hS (j := j) (t := 0) hd h50 hj (by decide) (by omega)
  obtain ⟨b1, b2, b3, b4, b5⟩ := th_at hS (j := j) (t := 1) hd h50 hj (by decide) (by omega)
  obtain ⟨c1, c2, c3, c4, c5⟩ := th_at hS (j := j) (t := 2) hd h50 hj (by decide) (by omega)
  rw [add_00] at a3 a4
  unfold f_Model_isThree
  rw [if_pos s2, if_neg (by rw [ti_le, c1]; omega)]
  unfold f_Model_isThree_23 thB
  rw [if_pos a3, a4, v_Model_isCell, ← a5]
  show f_Model_isThree_32 m _ (cellB (thS m d j 0).toInt32) = _
  by_cases e1 : cellB (thS m d j 0).toInt32 = false
  · rw [e1]; rfl
  have e1 : cellB (thS m d j 0).toInt32 = true := by simpa using e1
  rw [e1]
  unfold f_Model_isThree_32; rw [if_pos rfl]
  unfold f_Model_isThree_35; rw [if_pos b3, b4, v_Model_isClub hV, ← b5]
  show f_Model_isThree_47 m _ (clubB m (thS m d j 1).toInt32) = _
  by_cases e2 : clubB m (thS m d j 1).toInt32 = false
  · rw [e2]; rfl
  have e2 : clubB m (thS m d j 1).toInt32 = true := by simpa using e2
  rw [e2]
  unfold f_Model_isThree_47; rw [if_pos rfl]
  unfold f_Model_isThree_50; rw [if_pos c3, c4, v_Model_isCell, ← c5]
  show f_Model_isThree_61 m _ (cellB (thS m d j 2).toInt32) = _
  by_cases e3 : cellB (thS m d j 2).toInt32 = false
  · rw [e3]; rfl
  have e3 : cellB (thS m d j 2).toInt32 = true := by simpa using e3
  rw [e3]
  unfold f_Model_isThree_61; rw [if_pos rfl]
  unfold f_Model_isThree_64; rw [if_pos a3, a4, v_Model_isGreen m e1, Option.bind_some]
  cases grB m (thS m d j 0).toInt32 <;> rfl
theorem v_itemOf {x m : am_H} (hS : RS x m) {d j t : Int32} (hd : shelfB d = true) (h50 : m.1 16 d.toNatClampNeg = 50) (hj : 0 ≤ j.toInt) (ht : 0 ≤ t.toInt ∧ t.toInt ≤ 2) (hl : 3 * j.toInt + t.toInt < (m.1 17 d.toNatClampNeg).toInt) : f_Model_itemOf m d j t = some (thS m d j t).toInt32 := by
  obtain ⟨a1, a2, a3, a4, a5⟩ := th_at hS (j := j) (t := t) hd h50 hj ht hl
  unfold f_Model_itemOf; rw [if_pos a3, a4]
