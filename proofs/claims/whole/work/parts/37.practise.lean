/-! PRACTISE -/
/-- the mean from the tee -/
def teS (m : am_H) : Int64 := rowG m (fB m) 3 0
theorem v_fromTee {m : am_H} (hV : VM m) : ∃ m2, f_Model_fromTee m 0 = some (teS m, m2) ∧ sm [11, 12, 13, 14, 15] [7, 8, 9, 10] m m2 ∧ m2.2 10 3 = Un 3 := by
  obtain ⟨m2, q1, q2, q3, q4⟩ := v_Model_fills0 hV
  have e := (q4 93 (by omega)).1
  have hc : cellB 0 = true := by decide
  have e2 := rJ_at m (fB m) (n := 3) hc
  refine ⟨m2, ?_, q2, q3 3 (by omega)⟩
  unfold f_Model_fromTee
  rw [q1, Option.bind_some]
  unfold f_Model_fromTee_5
  rw [show (93 : Int32).toNatClampNeg = 93 from rfl, e]
  exact congrArg (fun z => some (z, m2)) e2
theorem KB.zero {x m : am_H} (h : ∀ j, j < 155 → x.2 13 j = 0) : KB x m :=
  ⟨fun _ => h, fun j hj => Or.inl (h j hj), fun j hj hn => absurd (h j hj) hn⟩
theorem RH.row {x m m2 : am_H} (h : RH x m) (e1 : m2.1 1 = m.1 1) (e6 : m2.1 0 6 = m.1 0 6) : RH x m2 := by
  refine ⟨fun p hp => ?_, ?_⟩
  · rw [e1]; exact h.1 p hp
  · rw [e6]; exact h.2
theorem put_back (m : am_H) (p : Nat) (v : Int32) : (am_pI (am_pI m 1 p v) 1 p (m.1 1 p)).1 1 = m.1 1 := by
  funext j
  simp only [hI1, true_and]
  by_cases e : j = p
  · rw [if_pos e, e]
  · rw [if_neg e, if_neg e]
/-- what it gains that a number grows by e -/
def gaS (m : am_H) (w : Int32) (p : Nat) (e : Int32) (base : Int64) : Int64 := if f_Model_mayBecome m w (m.1 1 p + e) = true then base - teS (am_pI m 1 p (m.1 1 p + e)) else 0
theorem v_gainBy {x m : am_H} (hR : RH x m) (hV : VM m) (hK : KB x m) {n w : Int32} (hp : 0 ≤ (plS m n w).toInt) (e : Int32) (base : Int64) :
    ∃ x2, f_Reck_gainBy x base n w e = some (gaS m w (plS m n w).toNatClampNeg e base, x2) ∧ RH x2 m ∧ KB x2 m ∧ sx [1, 2, 3, 4, 5, 12, 13, 15] x x2 ∧ (∀ i, i ≠ 6 → x2.1 12 i = x.1 12 i) ∧ x2.2 12 = x.2 12 := by
  rcases pl_at hR hV n w with ⟨a, b⟩ | ⟨a, b, c, d, e0, f, g, l1, l2⟩
  · rw [a] at hp; exact absurd hp (by decide)
  · have hq : (plS m n w).toNatClampNeg < 54 := by rw [ti_nat]; omega
    generalize hP : (plS m n w).toNatClampNeg = p at *
    obtain ⟨w1, w2⟩ := v_allows (v := m.1 1 p + e) hR hV e0 f
    unfold f_Reck_gainBy
    rw [d, Option.bind_some]
    unfold f_Reck_gainBy_10
    rw [w1, Option.bind_some]
    unfold f_Reck_gainBy_26 gaS
    by_cases hm : f_Model_mayBecome m w (m.1 1 p + e) = true
    · rw [if_pos hm, if_pos hm]
      have hv := w2 hm
      have hv' : vlo p ≤ (m.1 1 p + e).toInt ∧ (m.1 1 p + e).toInt ≤ vhi p := by rw [l1, l2]; exact hv
      have hin := xp_in hq
      unfold f_Reck_gainBy_31
      rw [g, Option.bind_some]
      generalize m.1 1 p + e = v at *
      have hs1 : sx [1, 2, 3, 4, 5] x (am_pI x (xp p).1 (xp p).2 v) := sx.pI _ _ _ _ hin
      have hR1 := hR.put hq v
      have hV1 := hV.put hv'
      have e12 := hs1 12 (by decide)
      have e13 := hs1 13 (by decide)
      obtain ⟨x1, b1, b2, b3, b4, b5, b6⟩ := v_forgetBest (x := am_pI x (xp p).1 (xp p).2 v) (fun q => by rw [e13.2]; exact hK.1 (by rw [← e12.1]; exact q))
      unfold f_Reck_gainBy_46
      rw [b1, Option.bind_some]
      obtain ⟨x3, c1, c2, c3, c4, c5, c6⟩ := v_Reck_mean0 (hR1.fx b4 (by decide)) hV1 (KB.zero b2) (cell := 0) (n := 3) (by decide) (by decide)
      unfold f_Reck_gainBy_50
      rw [c1, Option.bind_some]
      have hR3 : RH x3 (am_pI m 1 p v) := (hR1.fx b4 (by decide)).fx c3 (by decide)
      have hpl : plS (am_pI m 1 p v) n w = plS m n w := plS_c hV hV1 (by rw [hI1, if_neg (by simp)]) n w
      rcases pl_at hR3 hV1 n w with ⟨a', b'⟩ | ⟨a', b', c', d', e0', f', g', l1', l2'⟩
      · have q : plS m n w = -1 := hpl.symm.trans a'
        rw [q] at a; exact absurd a (by decide)
      · rw [hpl, hP] at g'
        unfold f_Reck_gainBy_57
        rw [g', Option.bind_some]
        have hs3 : sx [1, 2, 3, 4, 5] x3 (am_pI x3 (xp p).1 (xp p).2 (m.1 1 p)) := sx.pI _ _ _ _ hin
        have f12 := hs3 12 (by decide)
        have f13 := hs3 13 (by decide)
        obtain ⟨x4, d1, d2, d3, d4, d5, d6⟩ := v_forgetBest (x := am_pI x3 (xp p).1 (xp p).2 (m.1 1 p)) (fun q => by rw [f13.2]; exact c2.1 (by rw [← f12.1]; exact q))
        unfold f_Reck_gainBy_71
        rw [d1, Option.bind_some]
        refine ⟨x4, rfl, ?_, KB.zero d2, ?_, ?_, ?_⟩
        · exact ((hR3.put hq (m.1 1 p)).fx d4 (by decide)).row (put_back m p v).symm (by simp [hI1])
        · exact ((((hs1.mono (by simp)).tr (b4.mono (by simp))).tr (c3.mono (by simp))).tr (hs3.mono (by simp))).tr (d4.mono (by simp))
        · intro i hi
          rw [d5 i hi, f12.1, c4 i hi, b5 i hi, e12.1]
        · rw [d6, f12.2, c5, b6, e12.2]
    · rw [if_neg hm, if_neg hm]
      exact ⟨x, rfl, hR, hK, sx.rf _ _, fun _ _ => rfl, rfl⟩
theorem teS_c {m m2 : am_H} (e1 : m2.1 1 = m.1 1) (e6 : m2.1 0 6 = m.1 0 6) : teS m2 = teS m := by
  unfold teS; rw [fB_c e1 e6, rowG_c e1 e6]
/-- the model's mean with another number -/
theorem v_teeWith {m : am_H} {p v : Int32} (hp : 0 ≤ p.toInt ∧ p.toInt < 54) (hV1 : VM (am_pI m 1 p.toNatClampNeg v)) : ∃ m2, f_Model_teeWith m p v = some (teS (am_pI m 1 p.toNatClampNeg v), m2) ∧ sm [11, 12, 13, 14, 15] [1, 7, 8, 9, 10] m m2 ∧ m2.1 1 = m.1 1 ∧ m2.2 10 3 = Un 3 := by
  have ok := ok_of (i := p) (n := 54) hp
  obtain ⟨m2, a1, a2, a3⟩ := v_fromTee hV1
  refine ⟨am_pI m2 1 p.toNatClampNeg (m.1 1 p.toNatClampNeg), ?_, ?_, ?_, ?_⟩
  · unfold f_Model_teeWith; rw [if_pos ok, a1, Option.bind_some]; unfold f_Model_teeWith_19; rw [if_pos ok]
  · exact ((sm.pI _ 1 _ _ (by decide) (by simp)).tr (a2.mono (by simp) (by simp))).tr (sm.pI _ 1 _ _ (by decide) (by simp))
  · have e := (a2.2.2 1 (by decide) (by simp)).1
    have e2 := put_back m p.toNatClampNeg v
    funext j
    have e3 := congrFun e2 j
    simp only [hI1, true_and] at e3 ⊢
    rw [e]
    simp only [hI1, true_and]
    exact e3
  · rw [hI2]; exact a3
theorem sub_00 (a : Int64) : a - a = 0 := by
  rw [← Int64.toInt_inj, tl_sub]
  have y0 : (0 : Int64).toInt = 0 := rfl
  rw [y0]; omega
theorem put_same (m : am_H) (p : Nat) : (am_pI m 1 p (m.1 1 p)).1 1 = m.1 1 := by
  funext j
  simp only [hI1, true_and]
  by_cases e : j = p
  · rw [if_pos e, e]
  · rw [if_neg e]
theorem g_touch {m : am_H} (hV : VM m) : teS m - teS (am_pI m 1 51 (if 12 ≤ m.1 1 51 then 12 else m.1 1 51 + 1)) = gaS m 6 51 1 (teS m) := by
  have h := hV.1 51 (by decide)
  have h0 : 0 ≤ (m.1 1 51).toInt ∧ (m.1 1 51).toInt ≤ 12 := h
  have z12 : (12 : Int32).toInt = 12 := rfl
  have z1 : (1 : Int32).toInt = 1 := rfl
  have y12 : (12 : Int64).toInt = 12 := rfl
  have y0 : (0 : Int64).toInt = 0 := rfl
  have t : (m.1 1 51 + 1).toInt = (m.1 1 51).toInt + 1 := by rw [ti_add]; omega
  have hm : f_Model_mayBecome m 6 (m.1 1 51 + 1) = decide (0 ≤ (m.1 1 51 + 1).toInt ∧ (m.1 1 51 + 1).toInt ≤ 12) := by
    simp only [f_Model_mayBecome_57, f_Model_mayBecome_48, f_Model_mayBecome_67, f_Model_mayBecome_58, f_Model_mayBecome_77, f_Model_mayBecome_68, f_Model_mayBecome_87, f_Model_mayBecome_78, f_Model_mayBecome_97, f_Model_mayBecome_88, f_Model_mayBecome_109, f_Model_mayBecome_98, f_Model_mayBecome_119, f_Model_mayBecome_110, f_Model_mayBecome_137, f_Model_mayBecome_120, f_Model_mayBecome_155, f_Model_mayBecome_138, f_Model_mayBecome, v_Model_within32, y0, y12]
    rfl
  unfold gaS
  rw [hm]
  by_cases e : 12 ≤ m.1 1 51
  · have e' : (m.1 1 51).toInt = 12 := by rw [ti_le] at e; omega
    rw [if_pos e, decide_eq_false (by omega), if_neg (by decide)]
    have e2 : (12 : Int32) = m.1 1 51 := by rw [ti_eq]; omega
    have e3 : teS (am_pI m 1 51 12) = teS m := by rw [e2]; exact teS_c (put_same m 51) (by simp [hI1])
    rw [e3, sub_00]
  · rw [ti_le] at e
    rw [if_neg (by rw [ti_le]; exact e), decide_eq_true (by omega), if_pos rfl]
theorem may_spread (m : am_H) (v : Int32) : f_Model_mayBecome m 2 v = decide (0 ≤ v.toInt ∧ v.toInt ≤ 3) := by
  have y3 : (3 : Int64).toInt = 3 := rfl
  have y0 : (0 : Int64).toInt = 0 := rfl
  unfold f_Model_mayBecome
  rw [if_neg (by decide), if_neg (by decide), if_pos rfl]
  unfold f_Model_mayBecome_68 f_Model_mayBecome_77
  rw [v_Model_within32, y0, y3]
/-- which gains most, and how much -/
def prB (m : am_H) : Nat → Nat → Int32 × Int64 → Int32 × Int64
  | 0, _, r => r
  | k + 1, i, r => prB m k (i + 1) (if gaS m 2 (37 + i) (-1) (teS m) ≤ r.2 then r else (Int32.ofNat i + 1, gaS m 2 (37 + i) (-1) (teS m)))
def prR (m : am_H) : Int32 × Int64 := prB m (m.1 0 6).toInt.toNat 0 (0, gaS m 6 51 1 (teS m))
/-- what is kept of the practice -/
def KP (x m : am_H) : Prop := ¬ x.1 12 9 = 0 → x.1 12 12 = (prR m).1 ∧ x.2 12 13 = (prR m).2
theorem g_spread1 {m : am_H} {p : Nat} (h0 : 0 < (m.1 1 p).toInt ∧ (m.1 1 p).toInt ≤ 3) : gaS m 2 p (-1) (teS m) = teS m - teS (am_pI m 1 p (m.1 1 p - 1)) := by
  have t : (m.1 1 p - 1).toInt = (m.1 1 p).toInt - 1 := by
    have z1 : (1 : Int32).toInt = 1 := rfl
    rw [ti_sub, z1]; omega
  have e : m.1 1 p + -1 = m.1 1 p - 1 := by
    have zm : (-1 : Int32).toInt = -1 := rfl
    rw [ti_eq, t, ti_add, zm]; omega
  unfold gaS
  rw [may_spread, e]
  generalize m.1 1 p - 1 = v at *
  rw [if_pos (decide_eq_true (by omega))]
theorem teS_same {m : am_H} {p : Nat} {v : Int32} (h : m.1 1 p = v) : teS (am_pI m 1 p v) = teS m := by
  subst h
  exact teS_c (put_same m p) (by rw [hI1, if_neg (by simp)])
theorem g_spread0 {m : am_H} {p : Nat} (h : m.1 1 p = 0) : gaS m 2 p (-1) (teS m) = teS m - teS (am_pI m 1 p 0) := by
  rw [teS_same h, sub_00]
  unfold gaS
  rw [may_spread, h, if_neg (by decide)]
theorem plS_touch {m : am_H} (hV : VM m) : plS m 0 6 = 51 := by
  rw [plS_eq hV, if_neg (by decide), if_neg (by decide), if_pos rfl, if_pos (by decide)]
  decide
theorem plS_spread {m : am_H} (hV : VM m) {i : Int32} (hi : clubB m i = true) : 0 ≤ (plS m i 2).toInt ∧ (plS m i 2).toNatClampNeg = 37 + i.toNatClampNeg := by
  have h := clubB_iff.mp hi
  have h6 := hV.2
  have e : plS m i 2 = 37 + i := by
    rw [plS_eq hV, if_neg (by decide), if_pos (by decide), if_pos hi]
    rw [show (31 : Int32) + 6 * (2 - 1) = 37 from by decide]
  have z37 : (37 : Int32).toInt = 37 := rfl
  have t : (37 + i).toInt = 37 + i.toInt := by rw [ti_add, z37]; omega
  rw [e]
  refine ⟨by omega, ?_⟩
  rw [ti_nat, ti_nat]; omega
/-- the class's loop over the clubs -/
theorem l_practice {m : am_H} (hV : VM m) : ∀ (k fu : Nat) (x : am_H) (b : Int32) (w : Int64) (i : Int32), RH x m → KB x m → 0 ≤ i.toInt → i.toInt + k = (m.1 0 6).toInt → k < fu →
    ∃ x2, f_Reck_findPractice_32_l fu x (teS m) b w i = some x2 ∧ RH x2 m ∧ KB x2 m ∧ sx [1, 2, 3, 4, 5, 12, 13, 15] x x2 ∧ x2.1 12 12 = (prB m k i.toNatClampNeg (b, w)).1 ∧ x2.2 12 13 = (prB m k i.toNatClampNeg (b, w)).2 ∧ x2.1 12 9 = 1 ∧ (∀ i, i ≠ 6 → i ≠ 9 → i ≠ 12 → x2.1 12 i = x.1 12 i) ∧ (∀ i, i ≠ 13 → x2.2 12 i = x.2 12 i) := by
  have z1 : (1 : Int32).toInt = 1 := rfl
  have h6 := hV.2
  intro k
  induction k with
  | zero =>
    intro fu x b w i hR hK h0 hi hf
    obtain ⟨g, rfl⟩ : ∃ g, fu = g + 1 := ⟨fu - 1, by omega⟩
    have hs : sx [12] x (am_pI (am_pL (am_pI x 12 12 b) 12 13 w) 12 9 1) := ((sx.pI _ _ _ _ (by simp)).tr (sx.pL _ _ _ _ (by simp))).tr (sx.pI _ _ _ _ (by simp))
    have hK2 : KB (am_pI (am_pL (am_pI x 12 12 b) 12 13 w) 12 9 1) m := by
      have e13 := hs 13 (by simp)
      have e15 := hs 15 (by simp)
      have e6 : (am_pI (am_pL (am_pI x 12 12 b) 12 13 w) 12 9 1).1 12 6 = x.1 12 6 := by simp [hI1, hL1]
      unfold KB; rw [e13.2, e15.1, e6]; exact hK
    refine ⟨_, ?_, hR.fx hs (by decide), hK2, hs.mono (by simp), by simp [hI1, hL1, prB], by simp [hI2, hL2, prB], by simp [hI1], fun j h1 h2 h3 => by simp [hI1, hL1, h2, h3], fun j h1 => by simp [hI2, hL2, h1]⟩
    show f_Reck_findPractice_32 _ x (teS m) b w i = _
    unfold f_Reck_findPractice_32 f_Hole_clubsHeld f_Reck_findPractice_41
    rw [hR.2, if_pos (by rw [ti_le]; omega)]; rfl
  | succ k ih =>
    intro fu x b w i hR hK h0 hi hf
    obtain ⟨g, rfl⟩ : ∃ g, fu = g + 1 := ⟨fu - 1, by omega⟩
    have ti : (i + 1).toInt = i.toInt + 1 := by rw [ti_add]; omega
    have ni : (i + 1).toNatClampNeg = i.toNatClampNeg + 1 := by rw [ti_nat, ti_nat]; omega
    have hc : clubB m i = true := clubB_iff.mpr (by omega)
    obtain ⟨p1, p2⟩ := plS_spread hV hc
    obtain ⟨x1, a1, a2, a3, a4, a5, a6⟩ := v_gainBy hR hV hK p1 (-1) (teS m)
    rw [p2] at a1
    have ei : Int32.ofNat i.toNatClampNeg + 1 = i + 1 := by
      rw [ti_eq, ti_add, ti_add, Int32.toInt_ofNat_of_lt (by rw [ti_nat]; omega), ti_mk h0]
    have hgo : f_Reck_findPractice_32_l (g + 1) x (teS m) b w i = f_Reck_findPractice_53 (f_Reck_findPractice_32_l g) x1 (teS m) b w i (gaS m 2 (37 + i.toNatClampNeg) (-1) (teS m)) := by
      show f_Reck_findPractice_32 _ x (teS m) b w i = _
      unfold f_Reck_findPractice_32 f_Hole_clubsHeld f_Reck_findPractice_41
      rw [hR.2, if_neg (by rw [ti_le]; omega)]
      unfold f_Reck_findPractice_44
      rw [a1, Option.bind_some]
    rw [hgo]
    unfold f_Reck_findPractice_53 prB
    have key : ∀ (b' : Int32) (w' : Int64), ∃ x2, f_Reck_findPractice_32_l g x1 (teS m) b' w' (i + 1) = some x2 ∧ RH x2 m ∧ KB x2 m ∧ sx [1, 2, 3, 4, 5, 12, 13, 15] x x2 ∧ x2.1 12 12 = (prB m k (i.toNatClampNeg + 1) (b', w')).1 ∧ x2.2 12 13 = (prB m k (i.toNatClampNeg + 1) (b', w')).2 ∧ x2.1 12 9 = 1 ∧ (∀ i, i ≠ 6 → i ≠ 9 → i ≠ 12 → x2.1 12 i = x.1 12 i) ∧ (∀ i, i ≠ 13 → x2.2 12 i = x.2 12 i) := by
      intro b' w'
      obtain ⟨x2, c1, c2, c3, c4, c5, c6, c7, c8, c9⟩ := ih g x1 b' w' (i + 1) a2 a3 (by omega) (by omega) (by omega)
      rw [ni] at c5 c6
      exact ⟨x2, c1, c2, c3, a4.tr c4, c5, c6, c7, fun j h1 h2 h3 => by rw [c8 j h1 h2 h3, a5 j h1], fun j h1 => by rw [c9 j h1, a6]⟩
    by_cases e : gaS m 2 (37 + i.toNatClampNeg) (-1) (teS m) ≤ w
    · rw [if_pos e, if_pos e]; exact key b w
    · rw [if_neg e, if_neg e, ei]; exact key (i + 1) _
theorem prB_c {m m2 : am_H} (e1 : m2.1 1 = m.1 1) (e6 : m2.1 0 6 = m.1 0 6) (k i : Nat) (r : Int32 × Int64) : prB m2 k i r = prB m k i r := by
  have e : ∀ i, gaS m2 2 (37 + i) (-1) (teS m2) = gaS m 2 (37 + i) (-1) (teS m) := by
    intro i
    have ep : ∀ v, teS (am_pI m2 1 (37 + i) v) = teS (am_pI m 1 (37 + i) v) := fun v => teS_c (by funext j; simp only [hI1, true_and, e1]) (by simp only [hI1, Nat.reduceEqDiff, false_and, if_false, e6])
    unfold gaS
    rw [may_spread, may_spread, teS_c e1 e6, e1, ep]
  induction k generalizing i r with
  | zero => rfl
  | succ k ih => unfold prB; rw [e, ih]
