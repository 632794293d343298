/-! PRACTISE: the model's loop, and both -/
theorem VM.row {m m2 : am_H} (h : VM m) (e1 : m2.1 1 = m.1 1) (e6 : m2.1 0 6 = m.1 0 6) : VM m2 :=
  ⟨fun i hi => by rw [e1]; exact h.1 i hi, by rw [e6]; exact h.2⟩
theorem VM.sp {m : am_H} (h : VM m) {p : Nat} (hp : 37 ≤ p ∧ p < 43) {v : Int32} (hv : 0 ≤ v.toInt ∧ v.toInt ≤ 3) : VM (am_pI m 1 p v) := by
  refine h.put ?_
  unfold vlo vhi
  rw [if_neg (by omega), if_neg (by omega), if_neg (by omega), if_neg (by omega), if_pos (by omega)]; exact hv
theorem VM.to {m : am_H} (h : VM m) {v : Int32} (hv : 0 ≤ v.toInt ∧ v.toInt ≤ 12) : VM (am_pI m 1 51 v) := h.put hv
theorem m_pstep {m : am_H} (hV : VM m) (part b : Int32) (w : Int64) {i : Int32} (g : Nat) (h0 : 0 ≤ i.toInt) (hi : i.toInt < (m.1 0 6).toInt) : ∃ m1 y1, f_Model_practise_64_l (g + 1) m part (teS m) b w i = f_Model_practise_108 (f_Model_practise_64_l g) m1 part (teS m) b w i y1 (teS m) ∧ teS m - y1 = gaS m 2 (37 + i.toNatClampNeg) (-1) (teS m) ∧ sm [11, 12, 13, 14, 15] [1, 7, 8, 9, 10] m m1 ∧ m1.1 1 = m.1 1 ∧ m1.2 10 3 = Un 3 := by
  have h6 := hV.2
  have z37 : (37 : Int32).toInt = 37 := rfl
  have z0 : (0 : Int32).toInt = 0 := rfl
  have z1 : (1 : Int32).toInt = 1 := rfl
  have t37 : (37 + i).toInt = 37 + i.toInt := by rw [ti_add, z37]; omega
  have n37 : (37 + i).toNatClampNeg = 37 + i.toNatClampNeg := by rw [ti_nat, ti_nat]; omega
  have hN : i.toNatClampNeg < 6 := by rw [ti_nat]; omega
  have hs := hV.s hN
  have ok := ok_of (i := 37 + i) (n := 54) (by omega)
  have hp : 37 ≤ (37 + i).toNatClampNeg ∧ (37 + i).toNatClampNeg < 43 := by omega
  by_cases e : m.1 1 (37 + i.toNatClampNeg) ≤ 0
  · have e0 : m.1 1 (37 + i.toNatClampNeg) = 0 := by rw [ti_le] at e; rw [ti_eq]; omega
    obtain ⟨m1, a1, a2, a3, a4⟩ := v_teeWith (m := m) (p := 37 + i) (v := 0) (by omega) (hV.sp hp (by decide))
    rw [n37] at a1
    refine ⟨m1, _, ?_, (g_spread0 e0).symm, a2, a3, a4⟩
    show f_Model_practise_64 (f_Model_practise_64_l g) m part (teS m) b w i = _
    unfold f_Model_practise_64
    rw [if_neg (by rw [ti_le]; omega)]
    unfold f_Model_practise_73
    rw [if_pos ok, n37, if_pos e]
    unfold f_Model_practise_104 f_Model_practise_105
    rw [a1, Option.bind_some]
  · have e1 : 0 < (m.1 1 (37 + i.toNatClampNeg)).toInt := by rw [ti_le] at e; omega
    have t : (m.1 1 (37 + i.toNatClampNeg) - 1).toInt = (m.1 1 (37 + i.toNatClampNeg)).toInt - 1 := by
      rw [ti_sub, z1]; omega
    obtain ⟨m1, a1, a2, a3, a4⟩ := v_teeWith (m := m) (p := 37 + i) (v := m.1 1 (37 + i.toNatClampNeg) - 1) (by omega) (hV.sp hp (by omega))
    rw [n37] at a1
    refine ⟨m1, _, ?_, (g_spread1 ⟨e1, hs.2⟩).symm, a2, a3, a4⟩
    show f_Model_practise_64 (f_Model_practise_64_l g) m part (teS m) b w i = _
    unfold f_Model_practise_64
    rw [if_neg (by rw [ti_le]; omega)]
    unfold f_Model_practise_73
    rw [if_pos ok, n37, if_neg e]
    unfold f_Model_practise_97 f_Model_practise_105
    rw [a1, Option.bind_some]
/-- the model's loop over the clubs -/
theorem l_mpractice (part : Int32) : ∀ (k fu : Nat) (m : am_H) (b : Int32) (w : Int64) (i : Int32), VM m → 0 ≤ i.toInt → i.toInt + k = (m.1 0 6).toInt → k < fu →
    ∃ m2, f_Model_practise_64_l fu m part (teS m) b w i = f_Model_practise_153 m2 part (prB m k i.toNatClampNeg (b, w)).1 (prB m k i.toNatClampNeg (b, w)).2 ∧ sm [11, 12, 13, 14, 15] [1, 7, 8, 9, 10] m m2 ∧ m2.1 1 = m.1 1 ∧ (m.2 10 3 = Un 3 → m2.2 10 3 = Un 3) := by
  have z1 : (1 : Int32).toInt = 1 := rfl
  intro k
  induction k with
  | zero =>
    intro fu m b w i hV h0 hi hf
    obtain ⟨g, rfl⟩ : ∃ g, fu = g + 1 := ⟨fu - 1, by omega⟩
    refine ⟨m, ?_, sm.rf _ _ _, rfl, fun h => h⟩
    show f_Model_practise_64 _ m part (teS m) b w i = _
    unfold f_Model_practise_64
    rw [if_pos (by rw [ti_le]; omega)]; rfl
  | succ k ih =>
    intro fu m b w i hV h0 hi hf
    obtain ⟨g, rfl⟩ : ∃ g, fu = g + 1 := ⟨fu - 1, by omega⟩
    have h6 := hV.2
    have t1 : (i + 1).toInt = i.toInt + 1 := by rw [ti_add]; omega
    have ni : (i + 1).toNatClampNeg = i.toNatClampNeg + 1 := by rw [ti_nat, ti_nat]; omega
    have ei : Int32.ofNat i.toNatClampNeg + 1 = i + 1 := by
      rw [ti_eq, ti_add, ti_add, Int32.toInt_ofNat_of_lt (by rw [ti_nat]; omega), ti_mk h0]
    obtain ⟨m1, y1, a1, a2, a3, a4, a5⟩ := m_pstep hV part b w g h0 (by omega)
    have e6 : m1.1 0 6 = m.1 0 6 := a3.1 6 (by simp)
    have hV1 := hV.row a4 e6
    rw [a1]
    unfold f_Model_practise_108
    rw [a2]
    have key : ∀ (b' : Int32) (w' : Int64), ∃ m2, f_Model_practise_64_l g m1 part (teS m) b' w' (i + 1) = f_Model_practise_153 m2 part (prB m k (i.toNatClampNeg + 1) (b', w')).1 (prB m k (i.toNatClampNeg + 1) (b', w')).2 ∧ sm [11, 12, 13, 14, 15] [1, 7, 8, 9, 10] m m2 ∧ m2.1 1 = m.1 1 ∧ (m.2 10 3 = Un 3 → m2.2 10 3 = Un 3) := by
      intro b' w'
      obtain ⟨m2, c1, c2, c3, c4⟩ := ih g m1 b' w' (i + 1) hV1 (by omega) (by rw [e6]; omega) (by omega)
      rw [teS_c a4 e6, ni, prB_c a4 e6] at c1
      exact ⟨m2, c1, a3.tr c2, c3.trans a4, fun _ => c4 a5⟩
    unfold prB
    by_cases e : gaS m 2 (37 + i.toNatClampNeg) (-1) (teS m) ≤ w
    · rw [if_pos e, if_pos e]
      unfold f_Model_practise_126 f_Model_practise_128
      rw [if_pos e]
      exact key b w
    · rw [if_neg e, if_neg e]
      unfold f_Model_practise_119 f_Model_practise_128
      rw [if_neg e, ei]
      exact key (i + 1) _
theorem teS_b {m : am_H} (hV : VM m) : 0 < (teS m).toInt ∧ (teS m).toInt ≤ rT 3 := rowG_b hV (okF_B hV) 3 (by omega) 0 (by decide)
theorem rT3 : rT 3 = 1472499000 := by decide
theorem gaS_b {m : am_H} (hV : VM m) {w : Int32} {p : Nat} {e : Int32} (h : f_Model_mayBecome m w (m.1 1 p + e) = true → VM (am_pI m 1 p (m.1 1 p + e))) : -2000000000 < (gaS m w p e (teS m)).toInt ∧ (gaS m w p e (teS m)).toInt < 2000000000 := by
  have h1 := teS_b hV
  rw [rT3] at h1
  unfold gaS
  by_cases c : f_Model_mayBecome m w (m.1 1 p + e) = true
  · rw [if_pos c]
    have h2 := teS_b (h c)
    rw [rT3] at h2
    have h3 := tl_sub (teS m) (teS (am_pI m 1 p (m.1 1 p + e)))
    omega
  · rw [if_neg c]; decide
theorem prB_b {m : am_H} (hV : VM m) : ∀ (k i : Nat) (r : Int32 × Int64), i + k ≤ 6 → (-2000000000 < r.2.toInt ∧ r.2.toInt < 2000000000) → -2000000000 < (prB m k i r).2.toInt ∧ (prB m k i r).2.toInt < 2000000000 := by
  intro k
  induction k with
  | zero => intro i r _ h; exact h
  | succ k ih =>
    intro i r hi h
    unfold prB
    refine ih (i + 1) _ (by omega) ?_
    split
    · exact h
    · have q := gaS_b hV (w := 2) (p := 37 + i) (e := -1) (fun c => by
        rw [may_spread] at c
        exact hV.sp (by omega) (of_decide_eq_true c))
      dsimp only
      exact q
theorem may_touch (m : am_H) (v : Int32) : f_Model_mayBecome m 6 v = decide (0 ≤ v.toInt ∧ v.toInt ≤ 12) := by
  have y12 : (12 : Int64).toInt = 12 := rfl
  have y0 : (0 : Int64).toInt = 0 := rfl
  simp only [f_Model_mayBecome_57, f_Model_mayBecome_48, f_Model_mayBecome_67, f_Model_mayBecome_58, f_Model_mayBecome_77, f_Model_mayBecome_68, f_Model_mayBecome_87, f_Model_mayBecome_78, f_Model_mayBecome_97, f_Model_mayBecome_88, f_Model_mayBecome_109, f_Model_mayBecome_98, f_Model_mayBecome_119, f_Model_mayBecome_110, f_Model_mayBecome_137, f_Model_mayBecome_120, f_Model_mayBecome_155, f_Model_mayBecome_138, f_Model_mayBecome, v_Model_within32, y0, y12]
  rfl
theorem prR_b {m : am_H} (hV : VM m) : -2000000000 < (prR m).2.toInt ∧ (prR m).2.toInt < 2000000000 := by
  have h6 := hV.2
  have q := gaS_b hV (w := 6) (p := 51) (e := 1) (fun c => by
    rw [may_touch] at c
    exact hV.to (of_decide_eq_true c))
  unfold prR
  refine prB_b hV _ _ _ (by omega) ?_
  dsimp only
  exact q
theorem prR_c {m m2 : am_H} (e1 : m2.1 1 = m.1 1) (e6 : m2.1 0 6 = m.1 0 6) : prR m2 = prR m := by
  have ep : ∀ v, teS (am_pI m2 1 51 v) = teS (am_pI m 1 51 v) := fun v => teS_c (by funext j; simp only [hI1, true_and, e1]) (by simp only [hI1, Nat.reduceEqDiff, false_and, if_false, e6])
  have e : gaS m2 6 51 1 (teS m2) = gaS m 6 51 1 (teS m) := by
    unfold gaS
    rw [may_touch, may_touch, teS_c e1 e6, e1, ep]
  unfold prR
  rw [e6, prB_c e1 e6, e]
theorem KP.fm {x m m2 : am_H} (h : KP x m) (e1 : m2.1 1 = m.1 1) (e6 : m2.1 0 6 = m.1 0 6) : KP x m2 := by
  unfold KP; rw [prR_c e1 e6]; exact h
theorem v_findPractice {x m : am_H} (hR : RH x m) (hV : VM m) (hK : KB x m) (hP : KP x m) : ∃ x2, f_Reck_findPractice x = some x2 ∧ RH x2 m ∧ KB x2 m ∧ sx [1, 2, 3, 4, 5, 12, 13, 15] x x2 ∧ x2.1 12 12 = (prR m).1 ∧ x2.2 12 13 = (prR m).2 ∧ ¬ x2.1 12 9 = 0 ∧ (∀ i, i ≠ 6 → i ≠ 9 → i ≠ 12 → x2.1 12 i = x.1 12 i) ∧ (∀ i, i ≠ 13 → x2.2 12 i = x.2 12 i) := by
  unfold f_Reck_findPractice
  by_cases e : x.1 12 9 = 0
  · rw [if_pos e]
    have h6 := hV.2
    obtain ⟨x1, a1, a2, a3, a4, a5, -⟩ := v_Reck_mean0 hR hV hK (cell := 0) (n := 3) (by decide) (by decide)
    unfold f_Reck_findPractice_8
    rw [a1, Option.bind_some]
    have hR1 := hR.fx a3 (by decide)
    have hpt := plS_touch hV
    obtain ⟨x2, b1, b2, b3, b4, b5, b6⟩ := v_gainBy hR1 hV a2 (n := 0) (w := 6) (by rw [hpt]; decide) 1 (teS m)
    rw [hpt, show (51 : Int32).toNatClampNeg = 51 from rfl] at b1
    unfold f_Reck_findPractice_15
    have hte : rowG m (fB m) (3 : Int32).toNatClampNeg 0 = teS m := rfl
    rw [hte, b1, Option.bind_some]
    unfold f_Reck_findPractice_27
    obtain ⟨x3, c1, c2, c3, c4, c5, c6, c7, c8, c9⟩ := l_practice hV (m.1 0 6).toInt.toNat am_fu x2 0 (gaS m 6 51 1 (teS m)) 0 b2 b3 (by decide) (by have : (0 : Int32).toInt = 0 := rfl; omega) (by unfold am_fu; omega)
    refine ⟨x3, c1, c2, c3, ((a3.mono (by simp)).tr b4).tr c4, c5, c6, by rw [c7]; decide, fun i h1 h2 h3 => ?_, fun i h1 => ?_⟩
    · rw [c8 i h1 h2 h3, b5 i h1, a4 i h1]
    · rw [c9 i h1, b6, a5]
  · rw [if_neg e]
    obtain ⟨p1, p2⟩ := hP e
    exact ⟨x, rfl, hR, hK, sx.rf _ _, p1, p2, e, fun _ _ _ _ => rfl, fun _ _ => rfl⟩
theorem v_mpractise {m : am_H} (hV : VM m) (part : Int32) : ∃ m2, f_Model_practise_16 m part = f_Model_practise_153 m2 part (prR m).1 (prR m).2 ∧ sm [11, 12, 13, 14, 15] [1, 7, 8, 9, 10] m m2 ∧ m2.1 1 = m.1 1 ∧ m2.2 10 3 = Un 3 := by
  have h6 := hV.2
  obtain ⟨m1, a1, a2, a3⟩ := v_fromTee hV
  have e1 := (a2.2.2 1 (by decide) (by simp)).1
  have e6 : m1.1 0 6 = m.1 0 6 := a2.1 6 (by simp)
  have hV1 := hV.row e1 e6
  unfold f_Model_practise_16
  rw [a1, Option.bind_some]
  have hto := hV.touch
  have z12 : (12 : Int32).toInt = 12 := rfl
  have z1 : (1 : Int32).toInt = 1 := rfl
  have hgo : f_Model_practise_21 m1 part (teS m) = f_Model_practise_55 m1 part (teS m) 0 (if 12 ≤ m.1 1 51 then 12 else m.1 1 51 + 1) 51 (teS m) := by
    unfold f_Model_practise_21
    rw [show (51 : Int32).toNatClampNeg = 51 from rfl, e1]
    by_cases q : 12 ≤ m.1 1 51
    · rw [if_pos q, if_pos q]; rfl
    · rw [if_neg q, if_neg q]; unfold f_Model_practise_41; rw [show (51 : Int32).toNatClampNeg = 51 from rfl, e1]
  have hv : 0 ≤ (if 12 ≤ m.1 1 51 then 12 else m.1 1 51 + 1).toInt ∧ (if 12 ≤ m.1 1 51 then 12 else m.1 1 51 + 1).toInt ≤ 12 := by
    by_cases q : 12 ≤ m.1 1 51
    · rw [if_pos q]; decide
    · rw [if_neg q]; rw [ti_le] at q
      have := ti_add (m.1 1 51) 1
      omega
  have hg := g_touch hV
  rw [hgo]
  generalize (if 12 ≤ m.1 1 51 then 12 else m.1 1 51 + 1) = v at *
  obtain ⟨m2, b1, b2, b3, b4⟩ := v_teeWith (m := m1) (p := 51) (v := v) (by decide) (hV1.to hv)
  have hte : teS (am_pI m1 1 51 v) = teS (am_pI m 1 51 v) := teS_c (by funext j; simp only [hI1, true_and, e1]) (by simp only [hI1, Nat.reduceEqDiff, false_and, if_false, e6])
  rw [show (51 : Int32).toNatClampNeg = 51 from rfl, hte] at b1
  unfold f_Model_practise_55
  rw [b1, Option.bind_some]
  unfold f_Model_practise_58
  rw [hg]
  have f1 : m2.1 1 = m.1 1 := b3.trans e1
  have f6 : m2.1 0 6 = m.1 0 6 := (b2.1 6 (by simp)).trans e6
  have hV2 := hV.row f1 f6
  obtain ⟨m3, c1, c2, c3, c4⟩ := l_mpractice part (m.1 0 6).toInt.toNat am_fu m2 0 (gaS m 6 51 1 (teS m)) 0 hV2 (by decide) (by rw [f6]; have : (0 : Int32).toInt = 0 := rfl; omega) (by unfold am_fu; omega)
  rw [teS_c f1 f6, prB_c f1 f6] at c1
  exact ⟨m3, c1, ((a2.mono (by simp) (by simp)).tr b2).tr c2, c3.trans f1, c4 b4⟩
theorem E_practise {x m : am_H} (hR : RH x m) (hV : VM m) (hK : KB x m) (hP : KP x m) (part : Int32) : ∃ r x2 m2, f_Club_practise x part = some (r, x2) ∧ f_Model_practise m part = some (r, m2) ∧ RH x2 m2 ∧ KB x2 m2 ∧ KP x2 m2 ∧ sx [1, 2, 3, 4, 5, 12, 13, 15] x x2 ∧ (∀ i, i ≠ 6 → i ≠ 9 → i ≠ 12 → x2.1 12 i = x.1 12 i) ∧ (∀ i, i ≠ 13 → x2.2 12 i = x.2 12 i) ∧ sm [11, 12, 13, 14, 15] [1, 7, 8, 9, 10] m m2 ∧ m2.1 1 = m.1 1 := by
  have z0 : (0 : Int32).toInt = 0 := rfl
  have z2 : (2 : Int32).toInt = 2 := rfl
  have y0 : (0 : Int64).toInt = 0 := rfl
  have y2 : (2 : Int64).toInt = 2 := rfl
  unfold f_Club_practise f_Model_practise f_Club_practise_4 f_Model_practise_9
  rw [v_Model_within32, y0, y2]
  by_cases hp : 0 ≤ part.toInt ∧ part.toInt ≤ 2
  · rw [if_neg (by rw [ti_lt]; omega), if_pos (by rw [ti_le]; omega), if_pos (decide_eq_true hp)]
    obtain ⟨x2, a1, a2, a3, a4, a5, a6, a7, a8, a9⟩ := v_findPractice hR hV hK hP
    obtain ⟨m2, b1, b2, b3, b4⟩ := v_mpractise hV part
    have e6 : m2.1 0 6 = m.1 0 6 := b2.1 6 (by simp)
    have hK2 : KB x2 m2 := by
      unfold KB
      rw [rJ_c b3 e6, fB_c b3 e6, grB_c b3, bestF_c b3 e6, rowG_c b3 e6, e6]
      exact a3
    have hP2 : KP x2 m2 := KP.fm (fun _ => ⟨a5, a6⟩) b3 e6
    unfold f_Club_practise_13
    rw [a1, Option.bind_some, b1]
    unfold f_Club_practise_20 f_Model_practise_153
    by_cases p2 : part = 2
    · refine ⟨(prR m).1.toInt64, x2, m2, ?_, ?_, a2.row b3 e6, hK2, hP2, a4, a8, a9, b2, b3⟩
      · rw [if_pos p2]
        unfold f_Club_practise_25 f_Reck_practiceWhich
        rw [a5]; rfl
      · rw [if_pos p2]; rfl
    · have hpp : part = 0 ∨ part = 1 := by
        rw [ti_eq] at p2
        rw [ti_eq, ti_eq]
        have z1 : (1 : Int32).toInt = 1 := rfl
        omega
      have hb := prR_b hV
      have hu : (Un 3).toInt = 13891500 := by decide +kernel
      obtain ⟨r, s1, s2⟩ := p_partOf (a := (prR m).2) (b := Un 3) (by omega) (by omega) hpp
      refine ⟨r, x2, m2, ?_, ?_, a2.row b3 e6, hK2, hP2, a4, a8, a9, b2, b3⟩
      · rw [if_neg p2]
        unfold f_Club_practise_34 f_Reck_practiceGain f_Club_practise_41
        rw [a6, v_Reck_unit (n := 3) (by decide), Option.bind_some, show (3 : Int32).toNatClampNeg = 3 from rfl]
        unfold f_Club_practise_45
        rw [s1]; rfl
      · rw [if_neg p2]
        unfold f_Model_practise_164
        rw [show (3 : Int32).toNatClampNeg = 3 from rfl, b4, s2]; rfl
  · rw [if_neg (fun z => hp (of_decide_eq_true z))]
    refine ⟨-9223372036854775808, x, m, ?_, rfl, hR, hK, hP, sx.rf _ _, fun _ _ _ _ => rfl, fun _ _ => rfl, sm.rf _ _ _, rfl⟩
    by_cases q : part < 0
    · rw [if_pos q]; rfl
    · rw [if_neg q, if_neg (by rw [ti_le]; rw [ti_lt] at q; omega)]; rfl
