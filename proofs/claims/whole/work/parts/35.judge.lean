/-! JUDGE -/
/-- the three numbers of a told shot -/
def thS (m : am_H) (d j t : Int32) : Int64 := m.2 18 (60 * d.toNatClampNeg + (3 * j + t).toNatClampNeg)
theorem th_at {x m : am_H} (hS : RS x m) {d j t : Int32} (hd : shelfB d = true) (h50 : m.1 16 d.toNatClampNeg = 50) (hj : 0 ≤ j.toInt) (ht : 0 ≤ t.toInt ∧ t.toInt ≤ 2) (hl : 3 * j.toInt + t.toInt < (m.1 17 d.toNatClampNeg).toInt) :
    (3 * j + t).toInt = 3 * j.toInt + t.toInt ∧ f_Shelf_read x (31 + 2 * d.toNatClampNeg) (3 * j + t) = some (thS m d j t) ∧ am_ok (60 * d + 3 * j + t) 360 = true ∧ m.2 18 (60 * d + 3 * j + t).toNatClampNeg = thS m d j t ∧ (thS m d j t).toInt32.toInt = (thS m d j t).toInt := by
  have z3 : (3 : Int32).toInt = 3 := rfl
  obtain ⟨s1, s2, s3, s4⟩ := shelf_at hd
  have hS1 := hS d.toNatClampNeg s1
  have hL := hS1.2.1
  have hL2 := hS1.2.2.1
  have t3 : (3 * j).toInt = 3 * j.toInt := by rw [ti_mul, z3]; omega
  have t4 : (3 * j + t).toInt = 3 * j.toInt + t.toInt := by rw [ti_add]; omega
  obtain ⟨o1, o2⟩ := ix3 (d := d) (i := 3 * j) (k := t) hd (by omega) ht.1 (by omega)
  have o3 : (60 * d + 3 * j + t).toNatClampNeg = 60 * d.toNatClampNeg + (3 * j + t).toNatClampNeg := by
    rw [o2]
    rw [ti_nat (3 * j), ti_nat t, ti_nat (3 * j + t)]
    omega
  have hB := hS1.2.2.2.2.2 h50 (3 * j + t).toNatClampNeg (by rw [ti_nat]; omega)
  refine ⟨t4, p_read s1 hS1 (by omega), o1, by rw [o3]; rfl, ?_⟩
  exact tl_32 (by unfold thS; omega)
/-- is it a shot that can be told of? -/
def thB (m : am_H) (d j : Int32) : Bool := cellB (thS m d j 0).toInt32 && (clubB m (thS m d j 1).toInt32 && (cellB (thS m d j 2).toInt32 && !grB m (thS m d j 0).toInt32))
theorem add_00 (a : Int32) : a + 0 = a := by
  have z0 : (0 : Int32).toInt = 0 := rfl
  have := ti_lo a
  have := ti_hi a
  rw [ti_eq, ti_add]; omega
theorem v_isThree {x m : am_H} (hV : VM m) (hS : RS x m) {d j : Int32} (hd : shelfB d = true) (h50 : m.1 16 d.toNatClampNeg = 50) (hj : 0 ≤ j.toInt) (hl : 3 * j.toInt + 2 < (m.1 17 d.toNatClampNeg).toInt) : f_Model_isThree m d j = some (thB m d j) := by
  have z0 : (0 : Int32).toInt = 0 := rfl
  have z1 : (1 : Int32).toInt = 1 := rfl
  have z2 : (2 : Int32).toInt = 2 := rfl
  obtain ⟨s1, s2, s3, s4⟩ := shelf_at hd
  obtain ⟨a1, a2, a3, a4, a5⟩ := th_at hS (j := j) (t := 0) hd h50 hj (by decide) (by omega)
  obtain ⟨b1, b2, b3, b4, b5⟩ := th_at hS (j := j) (t := 1) hd h50 hj (by decide) (by omega)
  obtain ⟨c1, c2, c3, c4, c5⟩ := th_at hS (j := j) (t := 2) hd h50 hj (by decide) (by omega)
  rw [add_00] at a3 a4
  unfold f_Model_isThree
  rw [if_pos s2, if_neg (by rw [ti_le, c1]; omega)]
  unfold f_Model_isThree_23 thB
  rw [if_pos a3, a4, v_Model_isCell, ← a5]
  show f_Model_isThree_32 m _ (cellB (thS m d j 0).toInt32) = _
  by_cases e1 : cellB (thS m d j 0).toInt32 = false
  · rw [e1]; rfl
  have e1 : cellB (thS m d j 0).toInt32 = true := by simpa using e1
  rw [e1]
  unfold f_Model_isThree_32; rw [if_pos rfl]
  unfold f_Model_isThree_35; rw [if_pos b3, b4, v_Model_isClub hV, ← b5]
  show f_Model_isThree_47 m _ (clubB m (thS m d j 1).toInt32) = _
  by_cases e2 : clubB m (thS m d j 1).toInt32 = false
  · rw [e2]; rfl
  have e2 : clubB m (thS m d j 1).toInt32 = true := by simpa using e2
  rw [e2]
  unfold f_Model_isThree_47; rw [if_pos rfl]
  unfold f_Model_isThree_50; rw [if_pos c3, c4, v_Model_isCell, ← c5]
  show f_Model_isThree_61 m _ (cellB (thS m d j 2).toInt32) = _
  by_cases e3 : cellB (thS m d j 2).toInt32 = false
  · rw [e3]; rfl
  have e3 : cellB (thS m d j 2).toInt32 = true := by simpa using e3
  rw [e3]
  unfold f_Model_isThree_61; rw [if_pos rfl]
  unfold f_Model_isThree_64; rw [if_pos a3, a4, v_Model_isGreen m e1, Option.bind_some]
  cases grB m (thS m d j 0).toInt32 <;> rfl
theorem v_itemOf {x m : am_H} (hS : RS x m) {d j t : Int32} (hd : shelfB d = true) (h50 : m.1 16 d.toNatClampNeg = 50) (hj : 0 ≤ j.toInt) (ht : 0 ≤ t.toInt ∧ t.toInt ≤ 2) (hl : 3 * j.toInt + t.toInt < (m.1 17 d.toNatClampNeg).toInt) : f_Model_itemOf m d j t = some (thS m d j t).toInt32 := by
  obtain ⟨a1, a2, a3, a4, a5⟩ := th_at hS (j := j) (t := t) hd h50 hj ht hl
  unfold f_Model_itemOf; rw [if_pos a3, a4]
theorem thB_iff {m : am_H} {d j : Int32} (h : thB m d j = true) : cellB (thS m d j 0).toInt32 = true ∧ clubB m (thS m d j 1).toInt32 = true ∧ cellB (thS m d j 2).toInt32 = true ∧ grB m (thS m d j 0).toInt32 = false := by
  unfold thB at h
  simpa [Bool.and_eq_true] using h
theorem spS_03 {m : am_H} (hV : VM m) {c : Int32} (h : clubB m c = true) : 0 ≤ (spS m c).toInt ∧ (spS m c).toInt ≤ 3 := hV.s (clubB_nat hV h)
theorem v_waysOf {x m : am_H} (hV : VM m) (hS : RS x m) {d j : Int32} (carry : Int32) (hd : shelfB d = true) (h50 : m.1 16 d.toNatClampNeg = 50) (hj : 0 ≤ j.toInt) (hl : 3 * j.toInt + 2 < (m.1 17 d.toNatClampNeg).toInt) (hB : thB m d j = true) :
    f_Model_waysOf m d j carry = some (waysS m (thS m d j 0).toInt32 carry (spS m (thS m d j 1).toInt32) (thS m d j 2).toInt32) := by
  have z0 : (0 : Int32).toInt = 0 := rfl
  have z1 : (1 : Int32).toInt = 1 := rfl
  have z2 : (2 : Int32).toInt = 2 := rfl
  obtain ⟨e1, e2, e3, e4⟩ := thB_iff hB
  have hc := (at_club hV e2).2.1
  unfold f_Model_waysOf
  rw [v_itemOf hS hd h50 hj (by decide) (by omega), Option.bind_some]
  unfold f_Model_waysOf_8
  rw [v_itemOf hS hd h50 hj (by decide) (by omega), Option.bind_some]
  unfold f_Model_waysOf_22
  rw [if_pos hc.1, v_itemOf hS hd h50 hj (by decide) (by omega), Option.bind_some, hc.2]
  unfold f_Model_waysOf_31
  rw [v_Model_waysTo _ _ e1 (spS_03 hV e2), Option.bind_some]
  rfl
theorem v_waysToBe {x m : am_H} (hR : RH x m) {a sp : Int32} (carry c : Int32) (hsp : 0 ≤ sp.toInt ∧ sp.toInt ≤ 3) : f_Rounds_waysToBe x a carry sp c = some (if (cellB a && !grB m a) = true ∧ cellB c = true then waysS m a carry sp c else 0) := by
  unfold f_Rounds_waysToBe
  rw [v_Hole_isOffGreen hR, Option.bind_some]
  unfold f_Rounds_waysToBe_8
  by_cases e1 : (cellB a && !grB m a) = true
  · rw [if_pos e1]
    have e1' : cellB a = true := by simp only [Bool.and_eq_true] at e1; exact e1.1
    unfold f_Rounds_waysToBe_11 f_Rounds_waysToBe_16
    rw [v_Hole_isCell]
    by_cases e2 : cellB c = true
    · rw [if_pos e2, if_pos ⟨e1, e2⟩]
      unfold f_Rounds_waysToBe_19
      rw [v_Hole_waysToLie hR _ _ e1' hsp, Option.bind_some]
      rfl
    · rw [if_neg e2, if_neg (fun z => e2 z.2)]; rfl
  · rw [if_neg e1, if_neg (fun z => e1 z.1)]; rfl
/-- the shelf of a round on both sides -/
theorem v_round {x m : am_H} (hS : RS x m) (d : Int32) : (∃ e : Int32, (e = -1 ∨ e = -11 ∨ e = -12) ∧ f_Club_refuseRound x d = some e ∧ f_Model_bytesIs m d = some e) ∨
    (f_Club_refuseRound x d = some 0 ∧ f_Model_bytesIs m d = some 1 ∧ shelfB d = true ∧ m.1 16 d.toNatClampNeg = 50) := by
  have z0 : (0 : Int32).toInt = 0 := rfl
  unfold f_Club_refuseRound f_Model_bytesIs
  rw [v_Club_isShelf, v_Model_isShelf]
  by_cases hdf : shelfB d = false
  · rw [hdf]; exact Or.inl ⟨-1, by simp, rfl, rfl⟩
  have hd : shelfB d = true := by simpa using hdf
  obtain ⟨s1, s2, s3, s4⟩ := shelf_at hd
  have hS1 := hS d.toNatClampNeg s1
  rw [hd]
  unfold f_Club_refuseRound_4 f_Model_bytesIs_4
  rw [if_pos rfl, if_pos rfl]
  unfold f_Club_refuseRound_9 f_Model_bytesIs_11
  rw [if_pos s2, if_pos s2, s3, p_isEmpty hS1]
  by_cases e0 : (m.1 16 d.toNatClampNeg).toInt < 0
  · rw [decide_eq_true e0, if_neg (by rw [ti_le, z0]; omega)]
    exact Or.inl ⟨-11, by simp, rfl, rfl⟩
  · rw [decide_eq_false e0, if_pos (by rw [ti_le, z0]; omega)]
    unfold f_Club_refuseRound_18 f_Model_bytesIs_25
    rw [if_neg (by decide), if_pos s2]
    unfold f_Club_refuseRound_24
    rw [if_pos s2, s3, p_isByteRow hS1]
    by_cases e50 : m.1 16 d.toNatClampNeg = 50
    · rw [decide_eq_true e50, if_pos e50]
      exact Or.inr ⟨rfl, rfl, rfl, e50⟩
    · rw [decide_eq_false e50, if_neg e50]
      exact Or.inl ⟨-12, by simp, rfl, rfl⟩
theorem l_judge {x m : am_H} (hR : RH x m) (hV : VM m) (hS : RS x m) {d : Int32} (hd : shelfB d = true) (h50 : m.1 16 d.toNatClampNeg = 50) :
    ∀ (k fu fu2 : Nat) (j : Int32), 0 ≤ j.toInt → j.toInt + k = (m.1 17 d.toNatClampNeg).toInt / 3 → k < fu → k < fu2 →
    ∃ r, f_Rounds_firstWrong_9_l x fu (31 + 2 * d.toNatClampNeg) (m.1 17 d.toNatClampNeg / 3) j = some r ∧ f_Model_judge_16_l m fu2 d j = some r := by
  have z0 : (0 : Int32).toInt = 0 := rfl
  have z1 : (1 : Int32).toInt = 1 := rfl
  have z2 : (2 : Int32).toInt = 2 := rfl
  have z3 : (3 : Int32).toInt = 3 := rfl
  obtain ⟨s1, s2, s3, s4⟩ := shelf_at hd
  have hS1 := hS d.toNatClampNeg s1
  have hL := hS1.2.1
  have hL2 := hS1.2.2.1
  have hdv : (m.1 17 d.toNatClampNeg / 3).toInt = (m.1 17 d.toNatClampNeg).toInt / 3 := by
    have := ti_div (m.1 17 d.toNatClampNeg) (b := 3) (by decide)
    rw [if_pos hL, z3] at this
    exact this
  intro k
  induction k with
  | zero =>
    intro fu fu2 j h0 hj hf hf2
    obtain ⟨g, rfl⟩ : ∃ g, fu = g + 1 := ⟨fu - 1, by omega⟩
    obtain ⟨g2, rfl⟩ : ∃ g, fu2 = g + 1 := ⟨fu2 - 1, by omega⟩
    have t3 : (3 * j).toInt = 3 * j.toInt := by rw [ti_mul, z3]; omega
    have t32 : (3 * j + 2).toInt = 3 * j.toInt + 2 := by rw [ti_add]; omega
    have q : m.1 17 d.toNatClampNeg / 3 ≤ j := by rw [ti_le, hdv]; omega
    have ej : m.1 17 d.toNatClampNeg / 3 = j := by rw [ti_eq, hdv]; omega
    have hr : (m.1 17 d.toNatClampNeg - m.1 17 d.toNatClampNeg / 3 * 3).toInt = (m.1 17 d.toNatClampNeg).toInt - 3 * j.toInt := by
      have e1 : (m.1 17 d.toNatClampNeg / 3 * 3).toInt = 3 * j.toInt := by rw [ti_mul, hdv, z3]; omega
      rw [ti_sub, e1]; omega
    have c1 : f_Rounds_firstWrong_9_l x (g + 1) (31 + 2 * d.toNatClampNeg) (m.1 17 d.toNatClampNeg / 3) j = some (if (m.1 17 d.toNatClampNeg).toInt = 3 * j.toInt then -2 else j) := by
      show f_Rounds_firstWrong_9 _ x _ _ j = _
      unfold f_Rounds_firstWrong_9; rw [if_pos q]
      unfold f_Rounds_firstWrong_97 f_Shelf_length
      rw [hS1.1]
      unfold f_Rounds_firstWrong_101
      by_cases e : (m.1 17 d.toNatClampNeg).toInt = 3 * j.toInt
      · rw [if_pos e, if_pos (by rw [ti_eq, hr, z0]; omega)]; rfl
      · rw [if_neg e, if_neg (by rw [ti_eq, hr, z0]; omega), ej]; rfl
    have c2 : f_Model_judge_16_l m (g2 + 1) d j = some (if (m.1 17 d.toNatClampNeg).toInt = 3 * j.toInt then -2 else j) := by
      show f_Model_judge_16 _ m d j = _
      unfold f_Model_judge_16; rw [if_pos s2]
      by_cases e : (m.1 17 d.toNatClampNeg).toInt = 3 * j.toInt
      · rw [if_pos e, if_pos (by rw [ti_le, t3]; omega)]; rfl
      · rw [if_neg e, if_neg (by rw [ti_le, t3]; omega)]
        unfold f_Model_judge_28 f_Model_isThree
        rw [if_pos s2, if_pos (by rw [ti_le, t32]; omega)]; rfl
    exact ⟨_, c1, c2⟩
  | succ k ih =>
    intro fu fu2 j h0 hj hf hf2
    obtain ⟨g, rfl⟩ : ∃ g, fu = g + 1 := ⟨fu - 1, by omega⟩
    obtain ⟨g2, rfl⟩ : ∃ g, fu2 = g + 1 := ⟨fu2 - 1, by omega⟩
    have t3 : (3 * j).toInt = 3 * j.toInt := by rw [ti_mul, z3]; omega
    have tj : (j + 1).toInt = j.toInt + 1 := by rw [ti_add]; omega
    have q : ¬ m.1 17 d.toNatClampNeg / 3 ≤ j := by rw [ti_le, hdv]; omega
    obtain ⟨a1, a2, a3, a4, a5⟩ := th_at hS (j := j) (t := 0) hd h50 h0 (by decide) (by omega)
    obtain ⟨b1, b2, b3, b4, b5⟩ := th_at hS (j := j) (t := 1) hd h50 h0 (by decide) (by omega)
    obtain ⟨c1, c2, c3, c4, c5⟩ := th_at hS (j := j) (t := 2) hd h50 h0 (by decide) (by omega)
    rw [add_00] at a2
    obtain ⟨r, d1, d2⟩ := ih g g2 (j + 1) (by omega) (by omega) (by omega) (by omega)
    have cm : f_Model_judge_16_l m (g2 + 1) d j = f_Model_judge_34 (f_Model_judge_16_l m g2) m d j (thB m d j) := by
      show f_Model_judge_16 _ m d j = _
      unfold f_Model_judge_16; rw [if_pos s2, if_neg (by rw [ti_le, t3]; omega)]
      unfold f_Model_judge_28; rw [v_isThree hV hS hd h50 h0 (by omega), Option.bind_some]
    have cx : f_Rounds_firstWrong_9_l x (g + 1) (31 + 2 * d.toNatClampNeg) (m.1 17 d.toNatClampNeg / 3) j = f_Rounds_firstWrong_57 (f_Rounds_firstWrong_9_l x g) x (31 + 2 * d.toNatClampNeg) (m.1 17 d.toNatClampNeg / 3) j (thS m d j 0).toInt32 (thS m d j 1).toInt32 (thS m d j 2).toInt32 (clubB m (thS m d j 1).toInt32) := by
      show f_Rounds_firstWrong_9 _ x _ _ j = _
      unfold f_Rounds_firstWrong_9; rw [if_neg q]
      simp only [f_Rounds_firstWrong_14, a2, Option.bind_some, f_Rounds_firstWrong_21, b2, f_Rounds_firstWrong_33, c2, f_Rounds_firstWrong_45, v_Hole_hasClub hR hV]
    rw [cm, cx]
    by_cases e2 : clubB m (thS m d j 1).toInt32 = true
    · rw [e2]
      unfold f_Rounds_firstWrong_57; rw [if_pos rfl]
      simp only [f_Rounds_firstWrong_60, v_Hole_carryOf hR hV e2, Option.bind_some, f_Rounds_firstWrong_72, v_Hole_spreadOf hR hV e2, f_Rounds_firstWrong_81, v_waysToBe hR _ _ (spS_03 hV e2)]
      by_cases eB : thB m d j = true
      · obtain ⟨g1, -, g3, g4⟩ := thB_iff eB
        rw [eB]
        unfold f_Model_judge_34; rw [if_pos rfl]
        unfold f_Model_judge_37; rw [v_itemOf hS hd h50 h0 (by decide) (by omega), Option.bind_some]
        unfold f_Model_judge_53; rw [if_pos (at_club hV e2).1.1, (at_club hV e2).1.2, v_waysOf hV hS _ hd h50 h0 (by omega) eB, Option.bind_some]
        rw [if_pos ⟨by rw [g1, g4]; rfl, g3⟩]
        unfold f_Rounds_firstWrong_86 f_Model_judge_58
        split
        · exact ⟨j, rfl, rfl⟩
        · exact ⟨r, d1, d2⟩
      · have eB' : thB m d j = false := by simpa using eB
        rw [eB']
        rw [if_neg (fun z => eB (by unfold thB; have := z.1; simp only [Bool.and_eq_true] at this; rw [e2, z.2, this.1, this.2]; rfl))]
        exact ⟨j, rfl, rfl⟩
    · have e2' : clubB m (thS m d j 1).toInt32 = false := by simpa using e2
      have eB' : thB m d j = false := by unfold thB; rw [e2']; simp
      rw [e2', eB']
      exact ⟨j, rfl, rfl⟩
theorem E_judge {x m : am_H} (hR : RH x m) (hV : VM m) (hS : RS x m) (d : Int32) : ∃ r, f_Club_judge x d = some r ∧ f_Model_judge m d = some r := by
  unfold f_Club_judge f_Model_judge
  rcases v_round hS d with ⟨e, he, a1, a2⟩ | ⟨a1, a2, hd, h50⟩
  · rw [a1, a2, Option.bind_some, Option.bind_some]
    refine ⟨e, ?_, ?_⟩
    · unfold f_Club_judge_5; rw [if_neg (by rcases he with h | h | h <;> rw [h] <;> decide)]; rfl
    · unfold f_Model_judge_5; rw [if_neg (by rcases he with h | h | h <;> rw [h] <;> decide)]; unfold f_Model_judge_8; rw [a2]; rfl
  · rw [a1, a2, Option.bind_some, Option.bind_some]
    obtain ⟨s1, s2, s3, s4⟩ := shelf_at hd
    have hS1 := hS d.toNatClampNeg s1
    obtain ⟨r, d1, d2⟩ := l_judge hR hV hS hd h50 ((m.1 17 d.toNatClampNeg).toInt / 3).toNat am_fu am_fu 0 (by decide) (by
      have z0 : (0 : Int32).toInt = 0 := rfl
      have := hS1.2.1
      omega) (by have := hS1.2.2.1; unfold am_fu; omega) (by have := hS1.2.2.1; unfold am_fu; omega)
    refine ⟨r, ?_, ?_⟩
    · unfold f_Club_judge_5; rw [if_pos rfl]; unfold f_Club_judge_14; rw [if_pos s2, s3]
      unfold f_Rounds_firstWrong f_Rounds_firstWrong_4 f_Shelf_length
      rw [hS1.1, d1]; rfl
    · unfold f_Model_judge_5; rw [if_pos (by decide)]; exact d2
