/-! CLUB, CLUBS, COUNT -/
theorem xp_14' {p : Nat} (hp : p < 54) : ¬ ((xp p).1 = (1 : Nat) ∧ (xp p).2 = (4 : Nat)) := fun h => xp_14 hp ⟨h.1.symm, h.2.symm⟩
theorem add_step {x m : am_H} (hR : RH x m) (hV : VM m) (h6 : (m.1 0 6).toInt < 6) {a b c : Int32} (ha : 0 ≤ a.toInt ∧ a.toInt ≤ 30) (hb : 0 ≤ b.toInt ∧ b.toInt ≤ 3) (hc : 0 ≤ c.toInt ∧ c.toInt ≤ 9) :
    ∃ x2 m2, f_Hole_addClub x a b c = some (m.1 0 6, x2) ∧ f_Model_adds m a b c = some m2 ∧ RH x2 m2 ∧ VM m2 ∧ m2.1 0 6 = m.1 0 6 + 1 ∧ sx [1, 3, 4, 5] x x2 ∧ sm [6] [1] m m2 := by
  have h0 := hV.2.1
  have z0 : (0 : Int32).toInt = 0 := rfl
  have z1 : (1 : Int32).toInt = 1 := rfl
  have z6 : (6 : Int32).toInt = 6 := rfl
  have z31 : (31 : Int32).toInt = 31 := rfl
  have z37 : (37 : Int32).toInt = 37 := rfl
  have z43 : (43 : Int32).toInt = 43 := rfl
  generalize hk : m.1 0 6 = k at *
  have t31 : (31 + k).toInt = 31 + k.toInt := by rw [ti_add]; omega
  have t37 : (37 + k).toInt = 37 + k.toInt := by rw [ti_add]; omega
  have t43 : (43 + k).toInt = 43 + k.toInt := by rw [ti_add]; omega
  have n31 : (31 + k).toNatClampNeg = 31 + k.toNatClampNeg := by rw [ti_nat, ti_nat]; omega
  have n37 : (37 + k).toNatClampNeg = 37 + k.toNatClampNeg := by rw [ti_nat, ti_nat]; omega
  have n43 : (43 + k).toNatClampNeg = 43 + k.toNatClampNeg := by rw [ti_nat, ti_nat]; omega
  have o31 := ok_of (i := 31 + k) (n := 54) (by omega)
  have o37 := ok_of (i := 37 + k) (n := 54) (by omega)
  have o43 := ok_of (i := 43 + k) (n := 54) (by omega)
  have o6 := ok_of (i := k) (n := 6) (by omega)
  have hN : k.toNatClampNeg < 6 := by rw [ti_nat]; omega
  have tk : (k + 1).toInt = k.toInt + 1 := by rw [ti_add]; omega
  have q1 : ¬ k < 0 := by rw [ti_lt]; omega
  have q2 : k < 6 := by rw [ti_lt]; omega
  have hx4 : x.1 1 4 = k := by rw [hR.2, hk]
  generalize hN' : k.toNatClampNeg = K at *
  have p3 : xp (31 + K) = (3, K) := by unfold xp; rw [if_neg (by omega), if_pos (by omega)]; congr 1; omega
  have p4 : xp (37 + K) = (4, K) := by unfold xp; rw [if_neg (by omega), if_neg (by omega), if_pos (by omega)]; congr 1; omega
  have p5 : xp (43 + K) = (5, K) := by unfold xp; rw [if_neg (by omega), if_neg (by omega), if_neg (by omega), if_pos (by omega)]; congr 1; omega
  have b31 : vlo (31 + K) ≤ a.toInt ∧ a.toInt ≤ vhi (31 + K) := by
    unfold vlo vhi; rw [if_neg (by omega), if_neg (by omega), if_neg (by omega), if_pos (by omega)]; exact ha
  have b37 : vlo (37 + K) ≤ b.toInt ∧ b.toInt ≤ vhi (37 + K) := by
    unfold vlo vhi; rw [if_neg (by omega), if_neg (by omega), if_neg (by omega), if_neg (by omega), if_pos (by omega)]; exact hb
  have b43 : vlo (43 + K) ≤ c.toInt ∧ c.toInt ≤ vhi (43 + K) := by
    unfold vlo vhi; rw [if_neg (by omega), if_neg (by omega), if_neg (by omega), if_neg (by omega), if_neg (by omega), if_pos (by omega)]; exact hc
  have R3 := ((hR.put (p := 31 + K) (by omega) a).put (p := 37 + K) (by omega) b).put (p := 43 + K) (by omega) c
  rw [p3, p4, p5] at R3
  have V3 := ((hV.put b31).put b37).put b43
  refine ⟨am_pI (am_pI (am_pI (am_pI x 3 K a) 4 K b) 5 K c) 1 4 (k + 1), am_pI (am_pI (am_pI (am_pI m 1 (31 + K) a) 1 (37 + K) b) 1 (43 + K) c) 0 6 (k + 1), ?_, ?_, ?_, ?_, ?_, ?_, ?_⟩
  · simp only [f_Hole_addClub_18, f_Hole_addClub_21, f_Hole_addClub_11, f_Hole_addClub, hx4, q1, q2, o6, if_true, if_false, hN']
  · simp only [f_Model_adds, hI1, hk, Nat.reduceEqDiff, false_and, if_false, o31, o37, o43, if_true, n31, n37, n43]
  · refine ⟨fun q hq => ?_, by simp [hI1]⟩
    have := R3.1 q hq
    rw [hI1, if_neg (xp_14' hq), hI1 _ 0 6, if_neg (by simp)]
    exact this
  · refine ⟨fun q hq => ?_, ?_⟩
    · have := V3.1 q hq
      rw [hI1 _ 0 6, if_neg (by simp)]
      exact this
    · rw [hI1, if_pos ⟨rfl, rfl⟩]; omega
  · rw [hI1, if_pos ⟨rfl, rfl⟩]
  · exact (((sx.pI _ _ _ _ (by simp)).tr (sx.pI _ _ _ _ (by simp))).tr (sx.pI _ _ _ _ (by simp))).tr (sx.pI _ _ _ _ (by simp))
  · exact (((sm.pI _ 1 _ _ (by decide) (by simp)).tr (sm.pI _ 1 _ _ (by decide) (by simp))).tr (sm.pI _ 1 _ _ (by decide) (by simp))).tr (sm.p0 _ _ _ (by simp))
/-- more clubs: the places of the numbers stand -/
theorem plS_grow {m m2 : am_H} (hV : VM m) (hV2 : VM m2) (hg : (m.1 0 6).toInt ≤ (m2.1 0 6).toInt) {n w : Int32} (h : 0 ≤ (plS m n w).toInt) : plS m2 n w = plS m n w := by
  rw [plS_eq hV] at h ⊢
  rw [plS_eq hV2]
  by_cases e0 : w = 0
  · rw [if_pos e0, if_pos e0]
  · rw [if_neg e0] at h ⊢
    rw [if_neg e0]
    by_cases e1 : decide (1 ≤ w.toInt ∧ w.toInt ≤ 3) = true
    · rw [if_pos e1] at h ⊢
      rw [if_pos e1]
      by_cases e2 : clubB m n = true
      · have e3 : clubB m2 n = true := by
          unfold clubB at e2 ⊢
          rw [decide_eq_true_iff] at e2 ⊢
          omega
        rw [if_pos e2, if_pos e3]
      · rw [if_neg e2] at h
        exact absurd h (by decide)
    · rw [if_neg e1, if_neg e1]
theorem RC.grow {x m x2 m2 : am_H} (hC : RC x m) (hV : VM m) (hV2 : VM m2) (hg : (m.1 0 6).toInt ≤ (m2.1 0 6).toInt) (s : sx [1, 3, 4, 5, 12, 13, 14] x x2) (t : sm [6] [1] m m2) : RC x2 m2 := by
  obtain ⟨r1, r2, r3, r4, r5, r6⟩ := hC
  have e22 := (s 22 (by simp)).1
  have e23 := (s 23 (by simp)).1
  have e24 := (s 24 (by simp)).1
  have e25 := (s 25 (by simp)).1
  have e26 := (s 26 (by simp)).1
  have f4 := t.1 4 (by simp)
  have f5 := t.1 5 (by simp)
  have g2 := (t.2.2 2 (by decide) (by simp)).1
  have g3 := (t.2.2 3 (by decide) (by simp)).1
  have g4 := (t.2.2 4 (by decide) (by simp)).1
  unfold RC
  rw [e22, e23, e24, e25, e26, f4, f5, g2, g3, g4]
  refine ⟨r1, r2, r3, r4, r5, fun i hi => ?_⟩
  obtain ⟨s1, s2, s3, s4, s5, s6, s7⟩ := r6 i hi
  exact ⟨by rw [plS_grow hV hV2 hg (by rw [s1]; exact s2)]; exact s1, s2, s3, s4, s5, s6, s7⟩
/-- both answer alike, and both have the same new clubs -/
def RGr (x m : am_H) (fx fm : Option (Int32 × am_H)) : Prop := ∃ r x2 m2, fx = some (r, x2) ∧ fm = some (r, m2) ∧ RH x2 m2 ∧ VM m2 ∧ RC x2 m2 ∧
    ((x2 = x ∧ m2 = m) ∨ (KZ x2 ∧ KF x2)) ∧ sx [1, 3, 4, 5, 12, 13, 14] x x2 ∧ x2.1 12 11 = x.1 12 11 ∧ sm [6] [1] m m2
theorem RGr.no {x m : am_H} (hR : RH x m) (hV : VM m) (hC : RC x m) (r : Int32) : RGr x m (some (r, x)) (some (r, m)) :=
  ⟨r, x, m, rfl, rfl, hR, hV, hC, Or.inl ⟨rfl, rfl⟩, sx.rf _ _, rfl, sm.rf _ _ _⟩
theorem v_isClub (a b c : Int32) : f_Hole_isClub a b c = some (decide ((0 ≤ a.toInt ∧ a.toInt ≤ 30) ∧ (0 ≤ b.toInt ∧ b.toInt ≤ 3) ∧ (0 ≤ c.toInt ∧ c.toInt ≤ 9))) := by
  simp only [f_Hole_isClub_28, f_Hole_isClub_24, f_Hole_isClub_21, f_Hole_isClub_16, f_Hole_isClub_13, f_Hole_isClub_8, f_Hole_isClub_5, f_Hole_isClub, v_isWithin 1 a 0 30 (by decide) (by decide) (by decide) (by decide) (by decide), v_isWithin 2 b 0 3 (by decide) (by decide) (by decide) (by decide) (by decide), v_isWithin 3 c 0 9 (by decide) (by decide) (by decide) (by decide) (by decide), Option.bind_some]
  have z0 : (0 : Int32).toInt = 0 := rfl
  have z3 : (3 : Int32).toInt = 3 := rfl
  have z9 : (9 : Int32).toInt = 9 := rfl
  have z30 : (30 : Int32).toInt = 30 := rfl
  rw [z0, z3, z9, z30]
  by_cases h1 : 0 ≤ a.toInt ∧ a.toInt ≤ 30
  · by_cases h2 : 0 ≤ b.toInt ∧ b.toInt ≤ 3
    · by_cases h3 : 0 ≤ c.toInt ∧ c.toInt ≤ 9 <;> simp [h1, h2, h3]
    · simp [h1, h2]
  · simp [h1]
theorem v_isOne (a b : Int64) : f_Model_isOne a b = decide ((0 ≤ a.toInt ∧ a.toInt ≤ 30) ∧ (0 ≤ b.toInt ∧ b.toInt ≤ 3)) := by
  simp only [f_Model_isOne_26, f_Model_isOne_22, f_Model_isOne_19, f_Model_isOne_11, f_Model_isOne_8, f_Model_isOne, v_Model_within]
  have z0 : (0 : Int64).toInt = 0 := rfl
  have z3 : (3 : Int64).toInt = 3 := rfl
  have z30 : (30 : Int64).toInt = 30 := rfl
  rw [z0, z3, z30]
  by_cases h1 : 0 ≤ a.toInt ∧ a.toInt ≤ 30
  · by_cases h2 : 0 ≤ b.toInt ∧ b.toInt ≤ 3 <;> simp [h1, h2]
  · simp [h1]
theorem v_isFull {x m : am_H} (hR : RH x m) (hV : VM m) : f_Hole_isFull x = decide ((m.1 0 6).toInt = 6) := by
  have h0 := hV.2
  have z6 : (6 : Int32).toInt = 6 := rfl
  have q : (x.1 1 4 < 6) ↔ (m.1 0 6).toInt < 6 := by rw [hR.2, ti_lt, z6]
  simp only [f_Hole_isFull_13, f_Hole_isFull_9, f_Hole_isFull]
  by_cases h : (m.1 0 6).toInt < 6
  · rw [if_pos (q.mpr h)]; symm; rw [decide_eq_false_iff_not]; omega
  · rw [if_neg (fun z => h (q.mp z))]; symm; rw [decide_eq_true_iff]; omega
theorem E_club {x m : am_H} (hR : RH x m) (hV : VM m) (hC : RC x m) (hF : KF x) (d : Int32) : RGr x m (f_Club_club x d) (f_Model_club m d) := by
  have no := RGr.no hR hV hC
  have z0 : (0 : Int32).toInt = 0 := rfl
  have z1 : (1 : Int32).toInt = 1 := rfl
  have z6 : (6 : Int32).toInt = 6 := rfl
  by_cases e1 : d < 0
  · have c1 : f_Club_club x d = some (-1, x) := by unfold f_Club_club; rw [if_pos e1]; rfl
    have c2 : f_Model_club m d = some (-1, m) := by unfold f_Model_club; rw [if_pos e1]; rfl
    rw [c1, c2]; exact no _
  · have c1 : f_Club_club x d = f_Club_club_16 x d (decide ((0 ≤ (d / 10).toInt ∧ (d / 10).toInt ≤ 30) ∧ (0 ≤ (d - d / 10 * 10).toInt ∧ (d - d / 10 * 10).toInt ≤ 3) ∧ (0 ≤ (1 : Int32).toInt ∧ (1 : Int32).toInt ≤ 9))) := by
      unfold f_Club_club; rw [if_neg e1]; unfold f_Club_club_4; rw [v_isClub]; rfl
    have c2 : f_Model_club m d = f_Model_club_17 m d (decide ((0 ≤ (d / 10).toInt ∧ (d / 10).toInt ≤ 30) ∧ (0 ≤ (d - d / 10 * 10).toInt ∧ (d - d / 10 * 10).toInt ≤ 3))) := by
      unfold f_Model_club; rw [if_neg e1]; unfold f_Model_club_4; rw [v_isOne, ti_wide, ti_wide]
    rw [c1, c2]
    by_cases hb : (0 ≤ (d / 10).toInt ∧ (d / 10).toInt ≤ 30) ∧ (0 ≤ (d - d / 10 * 10).toInt ∧ (d - d / 10 * 10).toInt ≤ 3)
    · rw [decide_eq_true ⟨hb.1, hb.2, by decide⟩, decide_eq_true hb]
      by_cases e6 : (m.1 0 6).toInt = 6
      · have d1 : f_Club_club_16 x d true = some (-3, x) := by
          unfold f_Club_club_16; rw [if_pos rfl]; unfold f_Club_club_21; rw [v_isFull hR hV, decide_eq_true e6]; rfl
        have d2 : f_Model_club_17 m d true = some (-3, m) := by
          unfold f_Model_club_17; rw [if_pos rfl]; unfold f_Model_club_22; rw [if_pos ((ti_eq _ _).mpr (by rw [z6]; exact e6))]; rfl
        rw [d1, d2]; exact no _
      · obtain ⟨x1, g1, g2, g3, g4, g5⟩ := v_forget hF
        have h0 := hV.2
        obtain ⟨x2, m2, a1, a2, a3, a4, a5, a6, a7⟩ := add_step (hR.fx g4 (by decide)) hV (by omega) hb.1 hb.2 (c := 1) (by decide)
        have d1 : f_Club_club_16 x d true = some (m.1 0 6, x2) := by
          unfold f_Club_club_16; rw [if_pos rfl]; unfold f_Club_club_21; rw [v_isFull hR hV, decide_eq_false e6]
          simp only [f_Club_club_28, Bool.false_eq_true, if_false, f_Club_club_34, g1, Option.bind_some, f_Club_club_41, a1, f_Club_club_57]
        have t6 : (m.1 0 6 + 1).toInt = (m.1 0 6).toInt + 1 := by rw [ti_add]; omega
        have d2 : f_Model_club_17 m d true = some (m.1 0 6, m2) := by
          unfold f_Model_club_17; rw [if_pos rfl]; unfold f_Model_club_22; rw [if_neg (fun z => e6 (by rw [z]; exact z6))]
          simp only [f_Model_club_34, a2, Option.bind_some, f_Model_club_47, a5]
          rw [show m.1 0 6 + 1 - 1 = m.1 0 6 from by rw [ti_eq, ti_sub, t6]; omega]
        have s : sx [1, 3, 4, 5, 12, 13, 14] x x2 := (g4.mono (by simp)).tr (a6.mono (by simp))
        have u12 := a6 12 (by simp)
        have u13 := a6 13 (by simp)
        have u14 := a6 14 (by simp)
        rw [d1, d2]
        refine ⟨_, x2, m2, rfl, rfl, a3, a4, hC.grow hV a4 (by rw [a5, t6]; omega) s a7, Or.inr ⟨?_, ?_⟩, s, by rw [u12.1, g5], a7⟩
        · unfold KZ; rw [u12.1, u13.2, u14.2]; exact g2
        · unfold KF; rw [u12.1, u13.2, u14.2]; exact g3
    · rw [decide_eq_false (fun z => hb ⟨z.1, z.2.1⟩), decide_eq_false hb]
      exact no (-1)
/-- how many cells are of a sort -/
def cnI (f : Int32 → Bool) : Nat → Int32 → Int32 → Int32
  | 0, a, _ => a
  | k + 1, a, c => cnI f k (a + (if f c = true then 1 else 0)) (c + 1)
theorem l_Hole_greenCells {x m : am_H} (hR : RH x m) : ∀ (k fu : Nat) (a c : Int32), k < fu → 0 ≤ c.toInt → c.toInt + k = 31 → f_Hole_greenCells_4_l x fu a c = some (cnI (grB m) k a c) := by
  have z31 : (31 : Int32).toInt = 31 := rfl
  have z1 : (1 : Int32).toInt = 1 := rfl
  intro k
  induction k with
  | zero =>
    intro fu a c hf h0 hc
    obtain ⟨g, rfl⟩ : ∃ g, fu = g + 1 := ⟨fu - 1, by omega⟩
    have q : 31 ≤ c := by rw [ti_le]; omega
    show f_Hole_greenCells_4 _ x a c = _
    unfold f_Hole_greenCells_4; rw [if_pos q]; rfl
  | succ k ih =>
    intro fu a c hf h0 hc
    obtain ⟨g, rfl⟩ : ∃ g, fu = g + 1 := ⟨fu - 1, by omega⟩
    have q : ¬ 31 ≤ c := by rw [ti_le]; omega
    have hcell : cellB c = true := cellB_iff.mpr (by omega)
    have t1 : (c + 1).toInt = c.toInt + 1 := by rw [ti_add]; omega
    show f_Hole_greenCells_4 _ x a c = _
    unfold f_Hole_greenCells_4; rw [if_neg q]
    unfold f_Hole_greenCells_10; rw [v_Hole_isGreen hR, hcell, Bool.true_and, Option.bind_some]
    unfold f_Hole_greenCells_16 cnI
    by_cases e : grB m c = true
    · rw [if_pos e, if_pos e]; exact ih g (a + 1) (c + 1) (by omega) (by omega) (by omega)
    · rw [if_neg e, if_neg e]; exact ih g (a + 0) (c + 1) (by omega) (by omega) (by omega)
theorem l_Hole_waterCells {x m : am_H} (hR : RH x m) : ∀ (k fu : Nat) (a c : Int32), k < fu → 0 ≤ c.toInt → c.toInt + k = 31 → f_Hole_waterCells_4_l x fu a c = some (cnI (waB m) k a c) := by
  have z31 : (31 : Int32).toInt = 31 := rfl
  have z1 : (1 : Int32).toInt = 1 := rfl
  intro k
  induction k with
  | zero =>
    intro fu a c hf h0 hc
    obtain ⟨g, rfl⟩ : ∃ g, fu = g + 1 := ⟨fu - 1, by omega⟩
    have q : 31 ≤ c := by rw [ti_le]; omega
    show f_Hole_waterCells_4 _ x a c = _
    unfold f_Hole_waterCells_4; rw [if_pos q]; rfl
  | succ k ih =>
    intro fu a c hf h0 hc
    obtain ⟨g, rfl⟩ : ∃ g, fu = g + 1 := ⟨fu - 1, by omega⟩
    have q : ¬ 31 ≤ c := by rw [ti_le]; omega
    have hcell : cellB c = true := cellB_iff.mpr (by omega)
    have t1 : (c + 1).toInt = c.toInt + 1 := by rw [ti_add]; omega
    show f_Hole_waterCells_4 _ x a c = _
    unfold f_Hole_waterCells_4; rw [if_neg q]
    unfold f_Hole_waterCells_10; rw [v_Hole_isWater hR, hcell, Bool.true_and, Option.bind_some]
    unfold f_Hole_waterCells_16 cnI
    by_cases e : waB m c = true
    · rw [if_pos e, if_pos e]; exact ih g (a + 1) (c + 1) (by omega) (by omega) (by omega)
    · rw [if_neg e, if_neg e]; exact ih g (a + 0) (c + 1) (by omega) (by omega) (by omega)
theorem l_Model_cells1 (m : am_H) : ∀ (k fu : Nat) (a c : Int32), k < fu → 0 ≤ c.toInt → c.toInt + k = 31 → f_Model_cellsOf_4_l m fu 1 a c = some (cnI (grB m) k a c) := by
  have z31 : (31 : Int32).toInt = 31 := rfl
  have z1 : (1 : Int32).toInt = 1 := rfl
  intro k
  induction k with
  | zero =>
    intro fu a c hf h0 hc
    obtain ⟨g, rfl⟩ : ∃ g, fu = g + 1 := ⟨fu - 1, by omega⟩
    have q : 31 ≤ c := by rw [ti_le]; omega
    show f_Model_cellsOf_4 _ m 1 a c = _
    unfold f_Model_cellsOf_4; rw [if_pos q]; rfl
  | succ k ih =>
    intro fu a c hf h0 hc
    obtain ⟨g, rfl⟩ : ∃ g, fu = g + 1 := ⟨fu - 1, by omega⟩
    have q : ¬ 31 ≤ c := by rw [ti_le]; omega
    have hcell : cellB c = true := cellB_iff.mpr (by omega)
    have t1 : (c + 1).toInt = c.toInt + 1 := by rw [ti_add]; omega
    show f_Model_cellsOf_4 _ m 1 a c = _
    unfold f_Model_cellsOf_4; rw [if_neg q]
    unfold f_Model_cellsOf_10
    rw [if_neg (by decide)]
    unfold f_Model_cellsOf_15; rw [v_Model_isGreen m hcell, Option.bind_some]
    unfold f_Model_cellsOf_20 cnI
    by_cases e : grB m c = true
    · rw [if_pos e, if_pos e]; exact ih g (a + 1) (c + 1) (by omega) (by omega) (by omega)
    · rw [if_neg e, if_neg e]; exact ih g (a + 0) (c + 1) (by omega) (by omega) (by omega)
theorem l_Model_cells0 (m : am_H) : ∀ (k fu : Nat) (a c : Int32), k < fu → 0 ≤ c.toInt → c.toInt + k = 31 → f_Model_cellsOf_4_l m fu 0 a c = some (cnI (waB m) k a c) := by
  have z31 : (31 : Int32).toInt = 31 := rfl
  have z1 : (1 : Int32).toInt = 1 := rfl
  intro k
  induction k with
  | zero =>
    intro fu a c hf h0 hc
    obtain ⟨g, rfl⟩ : ∃ g, fu = g + 1 := ⟨fu - 1, by omega⟩
    have q : 31 ≤ c := by rw [ti_le]; omega
    show f_Model_cellsOf_4 _ m 0 a c = _
    unfold f_Model_cellsOf_4; rw [if_pos q]; rfl
  | succ k ih =>
    intro fu a c hf h0 hc
    obtain ⟨g, rfl⟩ : ∃ g, fu = g + 1 := ⟨fu - 1, by omega⟩
    have q : ¬ 31 ≤ c := by rw [ti_le]; omega
    have hcell : cellB c = true := cellB_iff.mpr (by omega)
    have t1 : (c + 1).toInt = c.toInt + 1 := by rw [ti_add]; omega
    show f_Model_cellsOf_4 _ m 0 a c = _
    unfold f_Model_cellsOf_4; rw [if_neg q]
    unfold f_Model_cellsOf_10
    rw [if_pos rfl]
    unfold f_Model_cellsOf_31; rw [v_Model_isWater m hcell, Option.bind_some]
    unfold f_Model_cellsOf_36 cnI
    by_cases e : waB m c = true
    · rw [if_pos e, if_pos e]; exact ih g (a + 1) (c + 1) (by omega) (by omega) (by omega)
    · rw [if_neg e, if_neg e]; exact ih g (a + 0) (c + 1) (by omega) (by omega) (by omega)
theorem E_count {x m : am_H} (hR : RH x m) (hT : RT0 x m) (hC : RC x m) (hW : RW x m) (k : Int32) : ∃ r, f_Club_count x k = some r ∧ f_Model_count m k = some r := by
  simp only [f_Club_count, f_Club_count_44, f_Club_count_51, f_Club_count_52, f_Club_count_59, f_Club_count_60, f_Club_count_67, f_Club_count_68, f_Club_count_75, f_Club_count_76, f_Club_count_83, f_Club_count_84, f_Club_count_91, f_Club_count_92, f_Club_count_99, f_Club_count_100,
    f_Model_count, f_Model_count_44, f_Model_count_49, f_Model_count_54, f_Model_count_55, f_Model_count_60, f_Model_count_61, f_Model_count_66, f_Model_count_71, f_Model_count_76, f_Model_count_81, f_Hole_clubsHeld, f_Law_tapeLength, f_Changes_toUndo, f_Words_wordsHeld, f_Words_ranInAll,
    f_Hole_greenCells, f_Hole_waterCells, f_Model_cellsOf, l_Hole_greenCells hR 31 am_fu 0 0 (by decide) (by decide) (by decide), l_Hole_waterCells hR 31 am_fu 0 0 (by decide) (by decide) (by decide), l_Model_cells1 m 31 am_fu 0 0 (by decide) (by decide) (by decide), l_Model_cells0 m 31 am_fu 0 0 (by decide) (by decide) (by decide), Option.bind_some, hR.2, hT.1, hC.1, hW.1, hW.2.2.2.2.2.1]
  repeat' split
  all_goals exact ⟨_, rfl, rfl⟩
theorem tl_32 {a : Int64} (h : -2147483648 ≤ a.toInt ∧ a.toInt ≤ 2147483647) : a.toInt32.toInt = a.toInt := by
  rw [Int64.toInt_toInt32, Int.bmod_def]
  split <;> omega
theorem l_bag {d : Int32} (hd : shelfB d = true) {i n : Int32} (hi : 0 ≤ i.toInt) (hn : n.toInt ≤ 6) : ∀ (k fu fu2 : Nat) (x m : am_H) (j : Int32), RH x m → VM m → RS x m → m.1 16 d.toNatClampNeg = 50 → 0 ≤ j.toInt → j.toInt + k = n.toInt → k < fu → k + 1 < fu2 →
    ∃ r x2 m2, f_Hole_addClubs_3_l fu x (31 + 2 * d.toNatClampNeg) i n j = some (r, x2) ∧ f_Model_clubs_69_l fu2 m d i n j 1 = some (r, m2) ∧ RH x2 m2 ∧ VM m2 ∧ (m.1 0 6).toInt ≤ (m2.1 0 6).toInt ∧ sx [1, 3, 4, 5] x x2 ∧ sm [6] [1] m m2 := by
  have z0 : (0 : Int32).toInt = 0 := rfl
  have z1 : (1 : Int32).toInt = 1 := rfl
  have z2 : (2 : Int32).toInt = 2 := rfl
  have z3 : (3 : Int32).toInt = 3 := rfl
  have z6 : (6 : Int32).toInt = 6 := rfl
  intro k
  induction k with
  | zero =>
    intro fu fu2 x m j hR hV hS h50 h0 hj hf hf2
    obtain ⟨g, rfl⟩ : ∃ g, fu = g + 1 := ⟨fu - 1, by omega⟩
    obtain ⟨g2, rfl⟩ : ∃ g, fu2 = g + 1 := ⟨fu2 - 1, by omega⟩
    have ej : j = n := by rw [ti_eq]; omega
    have q : n ≤ j := by rw [ti_le]; omega
    have q6 : ¬ 6 < n := by rw [ti_lt]; omega
    refine ⟨n, x, m, ?_, ?_, hR, hV, Int.le_refl _, sx.rf _ _, sm.rf _ _ _⟩
    · show f_Hole_addClubs_3 _ x _ i n j = _
      unfold f_Hole_addClubs_3; rw [if_pos q]; unfold f_Hole_addClubs_111; rw [if_neg q6]
    · show f_Model_clubs_69 _ m d i n j 1 = _
      unfold f_Model_clubs_69; rw [if_neg (by decide)]; unfold f_Model_clubs_74; rw [if_pos q]; unfold f_Model_clubs_222; rw [ej]
  | succ k ih =>
    intro fu fu2 x m j hR hV hS h50 h0 hj hf hf2
    obtain ⟨g, rfl⟩ : ∃ g, fu = g + 1 := ⟨fu - 1, by omega⟩
    obtain ⟨g2, rfl⟩ : ∃ g, fu2 = g + 1 := ⟨fu2 - 1, by omega⟩
    obtain ⟨g3, rfl⟩ : ∃ g, g2 = g + 1 := ⟨g2 - 1, by omega⟩
    obtain ⟨s1, s2, s3, s4⟩ := shelf_at hd
    have hS1 := hS d.toNatClampNeg s1
    have hL := hS1.2.1
    have hL2 := hS1.2.2.1
    have q : ¬ n ≤ j := by rw [ti_le]; omega
    have q6 : ¬ 6 ≤ j := by rw [ti_le]; omega
    have t3 : (3 * j).toInt = 3 * j.toInt := by rw [ti_mul, z3]; omega
    have t33 : (3 * j + 3).toInt = 3 * j.toInt + 3 := by rw [ti_add]; omega
    have c1 : f_Hole_addClubs_3_l (g + 1) x (31 + 2 * d.toNatClampNeg) i n j = f_Hole_addClubs_20 (f_Hole_addClubs_3_l g) x (31 + 2 * d.toNatClampNeg) i n j (decide ((m.1 0 6).toInt = 6)) := by
      show f_Hole_addClubs_3 _ x _ i n j = _
      unfold f_Hole_addClubs_3; rw [if_neg q]; unfold f_Hole_addClubs_9; rw [if_neg q6]; unfold f_Hole_addClubs_16; rw [v_isFull hR hV]
    have ft : (m.1 17 d.toNatClampNeg - 3 - 3 * j).toInt = (m.1 17 d.toNatClampNeg).toInt - 3 - 3 * j.toInt := by
      have e1 : (m.1 17 d.toNatClampNeg - 3).toInt = (m.1 17 d.toNatClampNeg).toInt - 3 := by rw [ti_sub]; omega
      rw [ti_sub]; omega
    have c2 : f_Model_clubs_69_l (g3 + 1 + 1) m d i n j 1 = f_Model_clubs_80 (f_Model_clubs_69_l (g3 + 1)) m d i n j := by
      show f_Model_clubs_69 _ m d i n j 1 = _
      unfold f_Model_clubs_69; rw [if_neg (by decide)]; unfold f_Model_clubs_74; rw [if_neg q]
    have stop : f_Model_clubs_69_l (g3 + 1) m d i n j 0 = some (j, m) := by
      show f_Model_clubs_69 _ m d i n j 0 = _
      unfold f_Model_clubs_69; rw [if_pos rfl]; rfl
    have s176 : ∀ x6, f_Model_clubs_176 (f_Model_clubs_69_l (g3 + 1)) m d i n j x6 = some (j, m) := fun x6 => by
      unfold f_Model_clubs_176 f_Model_clubs_177; rw [if_pos rfl]; exact stop
    have s110 : f_Model_clubs_110 (f_Model_clubs_69_l (g3 + 1)) m d i n j = some (j, m) := by
      unfold f_Model_clubs_110 f_Model_clubs_111; rw [if_pos rfl]; exact s176 _
    have fin : ∀ (a b : Option (Int32 × am_H)), a = some (j, x) → b = some (j, m) → ∃ r x2 m2, a = some (r, x2) ∧ b = some (r, m2) ∧ RH x2 m2 ∧ VM m2 ∧ (m.1 0 6).toInt ≤ (m2.1 0 6).toInt ∧ sx [1, 3, 4, 5] x x2 ∧ sm [6] [1] m m2 :=
      fun a b ha hb => ⟨j, x, m, ha, hb, hR, hV, Int.le_refl _, sx.rf _ _, sm.rf _ _ _⟩
    rw [c1, c2]
    unfold f_Model_clubs_80
    rw [if_pos s2]
    by_cases eF : (m.1 0 6).toInt = 6
    · refine fin _ _ ?_ ?_
      · rw [decide_eq_true eF]; unfold f_Hole_addClubs_20; rw [if_pos rfl]; rfl
      · split
        · exact s110
        · unfold f_Model_clubs_97; rw [if_pos (by rw [ti_le]; omega)]; exact s110
    · rw [decide_eq_false eF]
      have h06 := hV.2
      have d1 : f_Hole_addClubs_20 (f_Hole_addClubs_3_l g) x (31 + 2 * d.toNatClampNeg) i n j false = f_Hole_addClubs_34 (f_Hole_addClubs_3_l g) x (31 + 2 * d.toNatClampNeg) i n j (decide (0 ≤ i.toInt ∧ 0 ≤ (3 * j + 3).toInt ∧ i.toInt + (3 * j + 3).toInt ≤ (m.1 17 d.toNatClampNeg).toInt)) := by
        unfold f_Hole_addClubs_20; rw [if_neg (by decide)]; unfold f_Hole_addClubs_23; rw [p_hasPlaces hS1]
      rw [d1]
      by_cases eP : i.toInt + (3 * j.toInt + 3) ≤ (m.1 17 d.toNatClampNeg).toInt
      · rw [decide_eq_true ⟨hi, by omega, by omega⟩]
        have q1 : ¬ (m.1 17 d.toNatClampNeg - 3 - 3 * j) < i := by rw [ti_lt]; omega
        have q2 : ¬ 6 ≤ m.1 0 6 := by rw [ti_le]; omega
        rw [if_neg q1]
        unfold f_Model_clubs_97; rw [if_neg q2]
        unfold f_Model_clubs_106 f_Model_clubs_111; rw [if_neg (by decide)]
        obtain ⟨o1, o2⟩ := ix3 (d := d) (i := i) (k := 3 * j) hd hi (by omega) (by omega)
        have ti3 : (i + 3 * j).toInt = i.toInt + 3 * j.toInt := by rw [ti_add]; omega
        have ti31 : (i + 3 * j + 1).toInt = i.toInt + 3 * j.toInt + 1 := by rw [ti_add]; omega
        have ti32 : (i + 3 * j + 2).toInt = i.toInt + 3 * j.toInt + 2 := by rw [ti_add]; omega
        have r0 := p_read s1 hS1 (i := i + 3 * j) (by omega)
        have r1 := p_read s1 hS1 (i := i + 3 * j + 1) (by omega)
        have r2 := p_read s1 hS1 (i := i + 3 * j + 2) (by omega)
        have oo := ok_iff.mp o1
        have w0 : (60 * d + i + 3 * j).toInt = 60 * d.toInt + i.toInt + 3 * j.toInt := by
          have e1 : ((60 * d + i + 3 * j).toNatClampNeg : Int) = (60 * d + i + 3 * j).toInt := ti_mk oo.1
          rw [o2] at e1
          have e2 : (i.toNatClampNeg : Int) = i.toInt := ti_mk hi
          have e3 : ((3 * j).toNatClampNeg : Int) = (3 * j).toInt := ti_mk (by omega)
          omega
        have w1 : (60 * d + i + 3 * j + 1).toInt = 60 * d.toInt + i.toInt + 3 * j.toInt + 1 := by rw [ti_add]; omega
        have w2 : (60 * d + i + 3 * j + 2).toInt = 60 * d.toInt + i.toInt + 3 * j.toInt + 2 := by rw [ti_add]; omega
        have k1 := ok_of (i := 60 * d + i + 3 * j + 1) (n := 360) (by omega)
        have k2 := ok_of (i := 60 * d + i + 3 * j + 2) (n := 360) (by omega)
        have v0 : (60 * d + i + 3 * j).toNatClampNeg = 60 * d.toNatClampNeg + (i + 3 * j).toNatClampNeg := by rw [ti_nat, ti_nat (i + 3 * j)]; omega
        have v1 : (60 * d + i + 3 * j + 1).toNatClampNeg = 60 * d.toNatClampNeg + (i + 3 * j + 1).toNatClampNeg := by rw [ti_nat, ti_nat (i + 3 * j + 1)]; omega
        have v2 : (60 * d + i + 3 * j + 2).toNatClampNeg = 60 * d.toNatClampNeg + (i + 3 * j + 2).toNatClampNeg := by rw [ti_nat, ti_nat (i + 3 * j + 2)]; omega
        have hB := hS1.2.2.2.2.2 h50
        have b0 := hB (i + 3 * j).toNatClampNeg (by rw [ti_nat]; omega)
        have b1 := hB (i + 3 * j + 1).toNatClampNeg (by rw [ti_nat]; omega)
        have b2 := hB (i + 3 * j + 2).toNatClampNeg (by rw [ti_nat]; omega)
        have cx : f_Hole_addClubs_34 (f_Hole_addClubs_3_l g) x (31 + 2 * d.toNatClampNeg) i n j true = f_Hole_addClubs_88 (f_Hole_addClubs_3_l g) x (31 + 2 * d.toNatClampNeg) i n j (m.2 18 (60 * d.toNatClampNeg + (i + 3 * j).toNatClampNeg)).toInt32 (m.2 18 (60 * d.toNatClampNeg + (i + 3 * j + 1).toNatClampNeg)).toInt32 (m.2 18 (60 * d.toNatClampNeg + (i + 3 * j + 2).toNatClampNeg)).toInt32
            (decide ((0 ≤ (m.2 18 (60 * d.toNatClampNeg + (i + 3 * j).toNatClampNeg)).toInt32.toInt ∧ (m.2 18 (60 * d.toNatClampNeg + (i + 3 * j).toNatClampNeg)).toInt32.toInt ≤ 30) ∧ (0 ≤ (m.2 18 (60 * d.toNatClampNeg + (i + 3 * j + 1).toNatClampNeg)).toInt32.toInt ∧ (m.2 18 (60 * d.toNatClampNeg + (i + 3 * j + 1).toNatClampNeg)).toInt32.toInt ≤ 3) ∧ (0 ≤ (m.2 18 (60 * d.toNatClampNeg + (i + 3 * j + 2).toNatClampNeg)).toInt32.toInt ∧ (m.2 18 (60 * d.toNatClampNeg + (i + 3 * j + 2).toNatClampNeg)).toInt32.toInt ≤ 9))) := by
          unfold f_Hole_addClubs_34; rw [if_pos rfl]
          simp only [f_Hole_addClubs_40, r0, r1, r2, Option.bind_some, f_Hole_addClubs_54, f_Hole_addClubs_65, f_Hole_addClubs_76, v_isClub]
        rw [cx]
        unfold f_Model_clubs_131
        rw [if_pos o1, if_pos k1, v0, v1, v_isOne]
        generalize hba : m.2 18 (60 * d.toNatClampNeg + (i + 3 * j).toNatClampNeg) = ba at *
        generalize hbb : m.2 18 (60 * d.toNatClampNeg + (i + 3 * j + 1).toNatClampNeg) = bb at *
        generalize hbc : m.2 18 (60 * d.toNatClampNeg + (i + 3 * j + 2).toNatClampNeg) = bc at *
        rw [tl_32 (a := ba) (by omega), tl_32 (a := bb) (by omega), tl_32 (a := bc) (by omega)]
        by_cases e1 : (0 ≤ ba.toInt ∧ ba.toInt ≤ 30) ∧ (0 ≤ bb.toInt ∧ bb.toInt ≤ 3)
        · rw [decide_eq_true e1]
          unfold f_Model_clubs_150; rw [if_pos rfl]
          unfold f_Model_clubs_153; rw [if_pos k2, v2, hbc, v_Model_within]
          have y0 : (0 : Int64).toInt = 0 := rfl
          have y9 : (9 : Int64).toInt = 9 := rfl
          rw [y0, y9]
          by_cases e2 : 0 ≤ bc.toInt ∧ bc.toInt ≤ 9
          · rw [decide_eq_true e2, decide_eq_true ⟨e1.1, e1.2, e2⟩]
            obtain ⟨x1, m1, a1, a2, a3, a4, a5, a6, a7⟩ := add_step hR hV (by omega) (a := ba.toInt32) (b := bb.toInt32) (c := bc.toInt32) (by rw [tl_32 (by omega)]; exact e1.1) (by rw [tl_32 (by omega)]; exact e1.2) (by rw [tl_32 (by omega)]; exact e2)
            have tj : (j + 1).toInt = j.toInt + 1 := by rw [ti_add]; omega
            have t6 : (m.1 0 6 + 1).toInt = (m.1 0 6).toInt + 1 := by rw [ti_add]; omega
            obtain ⟨r, x2, m2, d1, d2, d3, d4, d5, d6, d7⟩ := ih g (g3 + 1) x1 m1 (j + 1) a3 a4 ((hS.fx a6 (by simp)).fm a7 (by simp) (by rw [a7.1 26 (by simp)]; omega)) (by rw [(a7.2.2 16 (by decide) (by simp)).1]; exact h50) (by omega) (by omega) (by omega) (by omega)
            refine ⟨r, x2, m2, ?_, ?_, d3, d4, ?_, a6.tr d6, a7.tr d7⟩
            · unfold f_Hole_addClubs_88; rw [if_pos rfl]
              simp only [f_Hole_addClubs_94, a1, Option.bind_some, f_Hole_addClubs_104]
              exact d1
            · unfold f_Model_clubs_169; rw [if_pos rfl]
              unfold f_Model_clubs_172 f_Model_clubs_177; rw [if_neg (by decide)]
              unfold f_Model_clubs_184; rw [if_pos o1, if_pos k1, if_pos k2]
              rw [v0, v1, v2, hba, hbb, hbc, a2, Option.bind_some]
              unfold f_Model_clubs_216 f_Model_clubs_219
              exact d2
            · rw [a5, t6] at d5; omega
          · refine fin _ _ ?_ ?_
            · rw [decide_eq_false (fun z => e2 z.2.2)]; rfl
            · rw [decide_eq_false e2]; unfold f_Model_clubs_169; rw [if_neg (by decide)]; exact s176 _
        · refine fin _ _ ?_ ?_
          · rw [decide_eq_false (fun z => e1 ⟨z.1, z.2.1⟩)]; rfl
          · rw [decide_eq_false e1]; unfold f_Model_clubs_150; rw [if_neg (by decide)]; exact s176 _
      · refine fin _ _ ?_ ?_
        · rw [decide_eq_false (fun z => eP (by omega))]; rfl
        · rw [if_pos (by rw [ti_lt]; omega)]; exact s110
theorem E_clubs {x m : am_H} (hR : RH x m) (hV : VM m) (hC : RC x m) (hF : KF x) (hS : RS x m) (d i n : Int32) : RGr x m (f_Club_clubs x d i n) (f_Model_clubs m d i n) := by
  have no := RGr.no hR hV hC
  have z0 : (0 : Int32).toInt = 0 := rfl
  have z1 : (1 : Int32).toInt = 1 := rfl
  have z6 : (6 : Int32).toInt = 6 := rfl
  have z50 : (50 : Int32).toInt = 50 := rfl
  unfold f_Club_clubs f_Model_clubs
  rw [v_Club_isShelf, v_Model_isShelf]
  by_cases hdf : shelfB d = false
  · rw [hdf]; exact no (-1)
  have hd : shelfB d = true := by simpa using hdf
  obtain ⟨s1, s2, s3, s4⟩ := shelf_at hd
  have hS1 := hS d.toNatClampNeg s1
  rw [hd]
  unfold f_Club_clubs_4 f_Model_clubs_4
  rw [if_pos rfl, if_pos rfl]
  unfold f_Club_clubs_7 f_Model_clubs_7
  rw [v_Model_within32]
  have y1 : (1 : Int64).toInt = 1 := rfl
  have y6 : (6 : Int64).toInt = 6 := rfl
  rw [y1, y6]
  by_cases hn : 1 ≤ n.toInt ∧ n.toInt ≤ 6
  · have q1 : ¬ n < 1 := by rw [ti_lt]; omega
    have q2 : n ≤ 6 := by rw [ti_le]; omega
    rw [decide_eq_true hn, if_neg q1]
    unfold f_Club_clubs_12 f_Model_clubs_16
    rw [if_pos q2, if_pos rfl]
    unfold f_Club_clubs_20 f_Model_clubs_21
    rw [if_pos s2, if_pos s2, s3, p_isEmpty hS1]
    have s66 : f_Model_clubs_66 m d i n 0 = some (0, m) := by
      unfold f_Model_clubs_66 f_Model_clubs_67
      show f_Model_clubs_69 _ m d i n 0 0 = _
      unfold f_Model_clubs_69; rw [if_pos rfl]; rfl
    by_cases e0 : (m.1 16 d.toNatClampNeg).toInt < 0
    · rw [decide_eq_true e0, if_pos (by rw [ti_lt, z0]; exact e0)]
      have c2 : f_Model_clubs_44 m d i n = some (0, m) := by
        unfold f_Model_clubs_44; rw [if_pos s2, if_neg (fun z => by rw [z] at e0; exact absurd e0 (by decide))]; exact s66
      rw [c2]; exact no 0
    · rw [decide_eq_false e0, if_neg (by rw [ti_lt, z0]; exact e0)]
      unfold f_Club_clubs_33 f_Model_clubs_30
      rw [if_neg (by decide), if_pos s2]
      unfold f_Club_clubs_38
      rw [p_isByteRow hS1]
      by_cases e50 : m.1 16 d.toNatClampNeg = 50
      · rw [decide_eq_true e50, if_pos e50]
        unfold f_Club_clubs_43 f_Model_clubs_44
        rw [if_pos rfl, if_pos s2, if_pos e50]
        obtain ⟨x1, g1, g2, g3, g4, g5⟩ := v_forget hF
        unfold f_Club_clubs_49
        rw [g1, Option.bind_some]
        have hR1 : RH x1 m := hR.fx g4 (by decide)
        have hS' : RS x1 m := hS.fx g4 (by simp)
        have fin : ∀ (r : Int32) (x2 m2 : am_H), f_Hole_addClubs x1 (31 + 2 * d.toNatClampNeg) i n = some (r, x2) → f_Model_clubs_58 m d i n 0 = some (r, m2) → RH x2 m2 → VM m2 → (m.1 0 6).toInt ≤ (m2.1 0 6).toInt → sx [1, 3, 4, 5] x1 x2 → sm [6] [1] m m2 → RGr x m (f_Club_clubs_56 x1 i n (31 + 2 * d.toNatClampNeg)) (f_Model_clubs_58 m d i n 0) := by
          intro r x2 m2 a1 a2 a3 a4 a5 a6 a7
          have s : sx [1, 3, 4, 5, 12, 13, 14] x x2 := (g4.mono (by simp)).tr (a6.mono (by simp))
          have u12 := a6 12 (by simp)
          have u13 := a6 13 (by simp)
          have u14 := a6 14 (by simp)
          have c1 : f_Club_clubs_56 x1 i n (31 + 2 * d.toNatClampNeg) = some (r, x2) := by unfold f_Club_clubs_56; rw [a1]; rfl
          rw [c1, a2]
          refine ⟨r, x2, m2, rfl, rfl, a3, a4, hC.grow hV a4 a5 s a7, Or.inr ⟨?_, ?_⟩, s, by rw [u12.1, g5], a7⟩
          · unfold KZ; rw [u12.1, u13.2, u14.2]; exact g2
          · unfold KF; rw [u12.1, u13.2, u14.2]; exact g3
        by_cases ei : i < 0
        · have ei' : i.toInt < 0 := by rw [ti_lt, z0] at ei; exact ei
          refine fin 0 x1 m ?_ ?_ hR1 hV (Int.le_refl _) (sx.rf _ _) (sm.rf _ _ _)
          · show f_Hole_addClubs_3 _ x1 _ i n 0 = _
            have q3 : ¬ n ≤ 0 := by rw [ti_le]; omega
            unfold f_Hole_addClubs_3; rw [if_neg q3]; unfold f_Hole_addClubs_9; rw [if_neg (by decide)]
            unfold f_Hole_addClubs_16 f_Hole_addClubs_20
            split
            · rfl
            · unfold f_Hole_addClubs_23; rw [p_hasPlaces (hS' _ s1), decide_eq_false (fun z => by omega)]; rfl
          · unfold f_Model_clubs_58; rw [if_pos ei]; exact s66
        · have ei' : 0 ≤ i.toInt := by rw [ti_lt, z0] at ei; omega
          obtain ⟨r, x2, m2, a1, a2, a3, a4, a5, a6, a7⟩ := l_bag hd ei' hn.2 n.toInt.toNat am_fu am_fu x1 m 0 hR1 hV hS' e50 (by decide) (by omega) (by unfold am_fu; omega) (by unfold am_fu; omega)
          exact fin r x2 m2 a1 (by unfold f_Model_clubs_58; rw [if_neg ei]; exact a2) a3 a4 a5 a6 a7
      · rw [decide_eq_false e50, if_neg e50]; exact no (-12)
  · rw [decide_eq_false hn]
    have c1 : ∀ y, (if n < 1 then f_Club_clubs_18 x else if n ≤ 6 then y else f_Club_clubs_18 x) = some (-1, x) := by
      intro y
      by_cases q1 : n < 1
      · rw [if_pos q1]; rfl
      · rw [if_neg q1, if_neg (by rw [ti_le]; rw [ti_lt] at q1; omega)]; rfl
    have c2 : (if n < 1 then f_Club_clubs_18 x else f_Club_clubs_12 x d i n) = some (-1, x) := c1 _
    rw [c2]; exact no (-1)
