/-! shift -/
theorem ix3 {d i k : Int32} (hd : shelfB d = true) (hi : 0 ≤ i.toInt) (hk : 0 ≤ k.toInt) (hs : i.toInt + k.toInt < 60) : am_ok (60 * d + i + k) 360 = true ∧ (60 * d + i + k).toNatClampNeg = 60 * d.toNatClampNeg + i.toNatClampNeg + k.toNatClampNeg := by
  have h1 := of_decide_eq_true hd
  have e1 := ti_mul 60 d
  have e2 := ti_add (60 * d) i
  have e5 := ti_add (60 * d + i) k
  have z : (60 : Int32).toInt = 60 := rfl
  rw [z] at e1
  have e3 : (60 * d).toInt = 60 * d.toInt := by omega
  have e4 : (60 * d + i).toInt = 60 * d.toInt + i.toInt := by omega
  have e6 : (60 * d + i + k).toInt = 60 * d.toInt + i.toInt + k.toInt := by omega
  refine ⟨ok_of (by omega), ?_⟩
  rw [ti_nat, ti_nat, ti_nat, ti_nat]; omega
theorem l_shift1 {d i e j n : Int32} (hd : shelfB d = true) (hi : 0 ≤ i.toInt) (hn : i.toInt + n.toInt ≤ 60) : ∀ (r f : Nat) (k : Int32) (m : am_H), r < f → (r : Int) = n.toInt - k.toInt → 0 ≤ k.toInt → ∃ m2, f_Model_shift_113_l f m d i e j n k = f_Model_shift_147 m2 e j n ∧ sm [] [19] m m2 ∧ m2.1 = m.1 ∧ ∀ q : Nat, m2.2 19 q = if k.toInt ≤ q ∧ (q : Int) < n.toInt then m.2 18 (60 * d.toNatClampNeg + i.toNatClampNeg + q) else m.2 19 q := by
  intro r
  induction r with
  | zero =>
    intro f k m hf hr hk
    obtain ⟨f, rfl⟩ : ∃ j, f = j + 1 := ⟨f - 1, by omega⟩
    have c : n ≤ k := by rw [ti_le]; omega
    refine ⟨m, ?_, sm.rf _ _ _, rfl, fun q => ?_⟩
    · show f_Model_shift_113 (f_Model_shift_113_l f) m d i e j n k = _
      simp only [f_Model_shift_113, if_pos c]
    · rw [if_neg (by omega)]
  | succ r ih =>
    intro f k m hf hr hk
    obtain ⟨f, rfl⟩ : ∃ j, f = j + 1 := ⟨f - 1, by omega⟩
    have c : ¬ n ≤ k := by rw [ti_le]; omega
    have e6 := ti_add k 1
    have z1 : (1 : Int32).toInt = 1 := rfl
    rw [z1] at e6
    have e7 : (k + 1).toInt = k.toInt + 1 := by omega
    obtain ⟨a1, a2⟩ := ix3 hd hi hk (show i.toInt + k.toInt < 60 by omega)
    obtain ⟨m2, b1, b2, b3, b4⟩ := ih f (k + 1) (am_pL m 19 k.toNatClampNeg (m.2 18 (60 * d.toNatClampNeg + i.toNatClampNeg + k.toNatClampNeg))) (by omega) (by omega) (by omega)
    refine ⟨m2, ?_, (sm.pL m 19 _ _ (by decide) (by decide)).tr b2, b3, fun q => ?_⟩
    · show f_Model_shift_113 (f_Model_shift_113_l f) m d i e j n k = _
      simp only [f_Model_shift_113, f_Model_shift_120, if_neg c, a1, a2, ok_of (i := k) (n := 60) (by omega), if_true]
      exact b1
    · rw [b4 q, hL2, hL2]
      have hj := ti_mk hk
      by_cases w : (q : Int) = k.toInt
      · have w2 : q = k.toNatClampNeg := by omega
        rw [if_neg (by omega), if_pos ⟨rfl, w2⟩, if_pos (by omega), w2]
      · by_cases q3 : (k + 1).toInt ≤ q ∧ (q : Int) < n.toInt
        · rw [if_pos q3, if_neg (by omega), if_pos (by omega)]
        · rw [if_neg q3, if_neg (by omega), if_neg (by omega)]
theorem l_shift2 {e j n : Int32} (hd : shelfB e = true) (hi : 0 ≤ j.toInt) (hn : j.toInt + n.toInt ≤ 60) : ∀ (r f : Nat) (k : Int32) (m : am_H), r < f → (r : Int) = n.toInt - k.toInt → 0 ≤ k.toInt → ∃ m2, f_Model_shift_150_l f m e j n k = some (n, m2) ∧ sm [] [18] m m2 ∧ m2.1 = m.1 ∧ ∀ q : Nat, m2.2 18 q = if 60 * e.toInt + j.toInt + k.toInt ≤ q ∧ (q : Int) < 60 * e.toInt + j.toInt + n.toInt then m.2 19 (q - (60 * e.toNatClampNeg + j.toNatClampNeg)) else m.2 18 q := by
  intro r
  induction r with
  | zero =>
    intro f k m hf hr hk
    obtain ⟨f, rfl⟩ : ∃ j, f = j + 1 := ⟨f - 1, by omega⟩
    have c : n ≤ k := by rw [ti_le]; omega
    refine ⟨m, ?_, sm.rf _ _ _, rfl, fun q => ?_⟩
    · show f_Model_shift_150 (f_Model_shift_150_l f) m e j n k = _
      simp only [f_Model_shift_150, f_Model_shift_185, if_pos c]
    · rw [if_neg (by omega)]
  | succ r ih =>
    intro f k m hf hr hk
    obtain ⟨f, rfl⟩ : ∃ j, f = j + 1 := ⟨f - 1, by omega⟩
    have c : ¬ n ≤ k := by rw [ti_le]; omega
    have e6 := ti_add k 1
    have z1 : (1 : Int32).toInt = 1 := rfl
    rw [z1] at e6
    have e7 : (k + 1).toInt = k.toInt + 1 := by omega
    have hs := of_decide_eq_true hd
    obtain ⟨a1, a2⟩ := ix3 hd hi hk (show j.toInt + k.toInt < 60 by omega)
    obtain ⟨m2, b1, b2, b3, b4⟩ := ih f (k + 1) (am_pL m 18 (60 * e.toNatClampNeg + j.toNatClampNeg + k.toNatClampNeg) (m.2 19 k.toNatClampNeg)) (by omega) (by omega) (by omega)
    refine ⟨m2, ?_, (sm.pL m 18 _ _ (by decide) (by decide)).tr b2, b3, fun q => ?_⟩
    · show f_Model_shift_150 (f_Model_shift_150_l f) m e j n k = _
      simp only [f_Model_shift_150, f_Model_shift_157, if_neg c, a1, a2, ok_of (i := k) (n := 60) (by omega), if_true]
      exact b1
    · rw [b4 q, hL2, hL2]
      have hj := ti_mk hk
      have hj2 := ti_mk hi
      have hj3 := ti_mk hs.1
      by_cases w : (q : Int) = 60 * e.toInt + j.toInt + k.toInt
      · have w2 : q = 60 * e.toNatClampNeg + j.toNatClampNeg + k.toNatClampNeg := by omega
        have w3 : q - (60 * e.toNatClampNeg + j.toNatClampNeg) = k.toNatClampNeg := by omega
        rw [if_neg (by omega), if_pos ⟨rfl, w2⟩, if_pos (by omega), w3]
      · by_cases q3 : 60 * e.toInt + j.toInt + (k + 1).toInt ≤ q ∧ (q : Int) < 60 * e.toInt + j.toInt + n.toInt
        · rw [if_pos q3, if_neg (by omega), if_pos (by omega)]
        · rw [if_neg q3, if_neg (by omega), if_neg (by omega)]
theorem E_shift {x m : am_H} (h : RS x m) (d i e j n : Int32) : ∃ r x2 m2, f_Club_shift x d i e j n = some (r, x2) ∧ f_Model_shift m d i e j n = some (r, m2) ∧ RS x2 m2 ∧ sx [31, 32, 33, 34, 35, 36, 37, 38, 39, 40, 41, 42] x x2 ∧ sm [] [18, 19] m m2 := by
  have no : ∀ r : Int32, ∀ hc : f_Club_shift x d i e j n = some (r, x), f_Model_shift m d i e j n = some (r, m) → ∃ r x2 m2, f_Club_shift x d i e j n = some (r, x2) ∧ f_Model_shift m d i e j n = some (r, m2) ∧ RS x2 m2 ∧ sx [31, 32, 33, 34, 35, 36, 37, 38, 39, 40, 41, 42] x x2 ∧ sm [] [18, 19] m m2 :=
    fun r a b => ⟨r, x, m, a, b, h, sx.rf _ _, sm.rf _ _ _⟩
  have z0 : (0 : Int32).toInt = 0 := rfl
  have z50 : (50 : Int32).toInt = 50 := rfl
  cases s1 : shelfB d with
  | false => exact no (-1) (by simp only [f_Club_shift_14, f_Club_shift_48, f_Club_shift_80, f_Club_shift_106, f_Club_shift_121, f_Club_shift_109, f_Club_shift_103, f_Club_shift_94, f_Club_shift_91, f_Club_shift_83, f_Club_shift_77, f_Club_shift_72, f_Club_shift_67, f_Club_shift_64, f_Club_shift_59, f_Club_shift_56, f_Club_shift_51, f_Club_shift_45, f_Club_shift_40, f_Club_shift_37, f_Club_shift_16, f_Club_shift_11, f_Club_shift_7, f_Club_shift_4, f_Club_shift, v_Club_isShelf, s1] <;> rfl) (by simp only [f_Model_shift_14, f_Model_shift_34, f_Model_shift_63, f_Model_shift_107, f_Model_shift_185, f_Model_shift_157, f_Model_shift_150, f_Model_shift_147, f_Model_shift_120, f_Model_shift_113, f_Model_shift_110, f_Model_shift_93, f_Model_shift_80, f_Model_shift_75, f_Model_shift_71, f_Model_shift_66, f_Model_shift_48, f_Model_shift_37, f_Model_shift_25, f_Model_shift_16, f_Model_shift_11, f_Model_shift_7, f_Model_shift_4, f_Model_shift, v_Model_isShelf, s1] <;> rfl)
  | true =>
  cases s2 : shelfB e with
  | false => exact no (-1) (by simp only [f_Club_shift_14, f_Club_shift_48, f_Club_shift_80, f_Club_shift_106, f_Club_shift_121, f_Club_shift_109, f_Club_shift_103, f_Club_shift_94, f_Club_shift_91, f_Club_shift_83, f_Club_shift_77, f_Club_shift_72, f_Club_shift_67, f_Club_shift_64, f_Club_shift_59, f_Club_shift_56, f_Club_shift_51, f_Club_shift_45, f_Club_shift_40, f_Club_shift_37, f_Club_shift_16, f_Club_shift_11, f_Club_shift_7, f_Club_shift_4, f_Club_shift, v_Club_isShelf, s1, s2] <;> rfl) (by simp only [f_Model_shift_14, f_Model_shift_34, f_Model_shift_63, f_Model_shift_107, f_Model_shift_185, f_Model_shift_157, f_Model_shift_150, f_Model_shift_147, f_Model_shift_120, f_Model_shift_113, f_Model_shift_110, f_Model_shift_93, f_Model_shift_80, f_Model_shift_75, f_Model_shift_71, f_Model_shift_66, f_Model_shift_48, f_Model_shift_37, f_Model_shift_25, f_Model_shift_16, f_Model_shift_11, f_Model_shift_7, f_Model_shift_4, f_Model_shift, v_Model_isShelf, s1, s2] <;> rfl)
  | true =>
  obtain ⟨k1, k2, k3, k4⟩ := shelf_at s1
  obtain ⟨l1, l2, l3, l4⟩ := shelf_at s2
  have hd := h _ k1
  have he := h _ l1
  have hd5 := of_decide_eq_true s1
  have he5 := of_decide_eq_true s2
  simp only [f_Club_shift_14, f_Club_shift_48, f_Club_shift_80, f_Club_shift_106, f_Club_shift_121, f_Club_shift_109, f_Club_shift_103, f_Club_shift_94, f_Club_shift_91, f_Club_shift_83, f_Club_shift_77, f_Club_shift_72, f_Club_shift_67, f_Club_shift_64, f_Club_shift_59, f_Club_shift_56, f_Club_shift_51, f_Club_shift_45, f_Club_shift_40, f_Club_shift_37, f_Club_shift_16, f_Club_shift_11, f_Club_shift_7, f_Club_shift_4, f_Club_shift, f_Model_shift_14, f_Model_shift_34, f_Model_shift_63, f_Model_shift_107, f_Model_shift_185, f_Model_shift_157, f_Model_shift_150, f_Model_shift_147, f_Model_shift_120, f_Model_shift_113, f_Model_shift_110, f_Model_shift_93, f_Model_shift_80, f_Model_shift_75, f_Model_shift_71, f_Model_shift_66, f_Model_shift_48, f_Model_shift_37, f_Model_shift_25, f_Model_shift_16, f_Model_shift_11, f_Model_shift_7, f_Model_shift_4, f_Model_shift, v_Club_isShelf, v_Model_isShelf, s1, s2, k2, l2, k3, l3, if_true, p_isEmpty hd, p_isEmpty he, p_isRow hd, p_isRow he, p_hasPlaces hd, p_hasPlaces he, f_Shelf_sortHeld] at no ⊢
  by_cases a1 : (m.1 16 d.toNatClampNeg).toInt < 0
  · have a2 : m.1 16 d.toNatClampNeg < 0 := by rw [ti_lt]; omega
    exact no (-11) (by simp [a1]) (by simp [a2])
  have a2 : ¬ m.1 16 d.toNatClampNeg < 0 := by rw [ti_lt]; omega
  by_cases a3 : (m.1 16 e.toNatClampNeg).toInt < 0
  · have a4 : ¬ 0 ≤ m.1 16 e.toNatClampNeg := by rw [ti_le]; omega
    exact no (-11) (by simp [a1, a3]) (by simp [a2, a4])
  have a4 : 0 ≤ m.1 16 e.toNatClampNeg := by rw [ti_le]; omega
  by_cases a5 : ¬ 50 ≤ (m.1 16 d.toNatClampNeg).toInt
  · have a6 : m.1 16 d.toNatClampNeg < 50 := by rw [ti_lt]; omega
    exact no (-12) (by simp [a1, a3, a5]) (by simp [a2, a4, a6])
  replace a5 := Decidable.not_not.mp a5
  have a6 : ¬ m.1 16 d.toNatClampNeg < 50 := by rw [ti_lt]; omega
  have hsd : x.1 (31 + 2 * d.toNatClampNeg) 2 = m.1 16 d.toNatClampNeg - 50 ∧ (m.1 16 d.toNatClampNeg).toInt ≤ 54 := by
    rcases hd.2.2.2.1 with ⟨e1, -⟩ | ⟨-, -, e3, -⟩ | ⟨-, e2, -, e4⟩
    · rw [e1] at a5; exact absurd a5 (by decide)
    · omega
    · exact ⟨e4, e2⟩
  by_cases a7 : ¬ m.1 16 d.toNatClampNeg = m.1 16 e.toNatClampNeg
  · refine no (-12) ?_ (by simp [a2, a4, a6, a7])
    by_cases a8 : 50 ≤ (m.1 16 e.toNatClampNeg).toInt
    · have hse : x.1 (31 + 2 * e.toNatClampNeg) 2 = m.1 16 e.toNatClampNeg - 50 ∧ (m.1 16 e.toNatClampNeg).toInt ≤ 54 := by
        rcases he.2.2.2.1 with ⟨e1, -⟩ | ⟨-, -, e3, -⟩ | ⟨-, e2, -, e4⟩
        · rw [e1] at a8; exact absurd a8 (by decide)
        · omega
        · exact ⟨e4, e2⟩
      have e5 := ti_sub (m.1 16 d.toNatClampNeg) 50
      have e6 := ti_sub (m.1 16 e.toNatClampNeg) 50
      have a9 : ¬ m.1 16 d.toNatClampNeg - 50 = m.1 16 e.toNatClampNeg - 50 := by
        intro q
        rw [ti_eq] at q
        exact a7 ((ti_eq _ _).mpr (by omega))
      simp only [a1, a3, a5, a8, hsd.1, hse.1, decide_true, decide_false, if_true, if_false, Bool.false_eq_true, a9]
    · simp only [a1, a3, a5, a8, decide_true, decide_false, if_true, if_false, Bool.false_eq_true]
  replace a7 := Decidable.not_not.mp a7
  have a8 : 50 ≤ (m.1 16 e.toNatClampNeg).toInt := by rw [← a7]; exact a5
  have a2e : ¬ m.1 16 e.toNatClampNeg < 0 := by rw [← a7]; exact a2
  have a6e : ¬ m.1 16 e.toNatClampNeg < 50 := by rw [← a7]; exact a6
  have hse : x.1 (31 + 2 * e.toNatClampNeg) 2 = m.1 16 e.toNatClampNeg - 50 := by
    rcases he.2.2.2.1 with ⟨e1, -⟩ | ⟨-, -, e3, -⟩ | ⟨-, -, -, e4⟩
    · rw [e1] at a8; exact absurd a8 (by decide)
    · omega
    · exact e4
  have b1 := hd.2.1
  have b2 := hd.2.2.1
  have b3 := he.2.1
  have b4 := he.2.2.1
  have c1 := ti_sub (m.1 17 d.toNatClampNeg) n
  have c2 := ti_sub (m.1 17 e.toNatClampNeg) n
  have hin := ti_hi i
  have hjn := ti_hi j
  have hnn := ti_hi n
  by_cases g : (0 ≤ i.toInt ∧ 0 ≤ n.toInt ∧ i.toInt + n.toInt ≤ (m.1 17 d.toNatClampNeg).toInt) ∧ (0 ≤ j.toInt ∧ 0 ≤ n.toInt ∧ j.toInt + n.toInt ≤ (m.1 17 e.toNatClampNeg).toInt)
  · obtain ⟨g1, g2⟩ := g
    have d1 : ¬ n < 0 := by rw [ti_lt]; omega
    have d2 : ¬ i < 0 := by rw [ti_lt]; omega
    have d3 : ¬ j < 0 := by rw [ti_lt]; omega
    have d4 : ¬ m.1 17 d.toNatClampNeg - n < i := by rw [ti_lt]; omega
    have d5 : j ≤ m.1 17 e.toNatClampNeg - n := by rw [ti_le]; omega
    obtain ⟨m1, p1, p2, p3, p4⟩ := l_shift1 (e := e) (j := j) (n := n) s1 g1.1 (by omega) n.toInt.toNat am_fu 0 m (by unfold am_fu; omega) (by omega) (by decide)
    obtain ⟨m2, q1, q2, q3, q4⟩ := l_shift2 (n := n) s2 g2.1 (by omega) n.toInt.toNat am_fu 0 m1 (by unfold am_fu; omega) (by omega) (by decide)
    have hi2 := ti_mk g1.1
    have hj2 := ti_mk g2.1
    have hn2 := ti_mk g1.2.1
    have ed : 31 + 2 * d.toNatClampNeg + 1 = 32 + 2 * d.toNatClampNeg := by omega
    have ee : 31 + 2 * e.toNatClampNeg + 1 = 32 + 2 * e.toNatClampNeg := by omega
    have m26 : m2.1 0 26 = m.1 0 26 := by rw [q3, p3]
    have m18 : ∀ q : Nat, m2.2 18 q = if 60 * e.toInt + j.toInt ≤ q ∧ (q : Int) < 60 * e.toInt + j.toInt + n.toInt then m.2 18 (60 * d.toNatClampNeg + i.toNatClampNeg + (q - (60 * e.toNatClampNeg + j.toNatClampNeg))) else m.2 18 q := by
      intro q
      rw [q4 q]
      by_cases w : 60 * e.toInt + j.toInt ≤ q ∧ (q : Int) < 60 * e.toInt + j.toInt + n.toInt
      · rw [if_pos (by omega), if_pos w, p4, if_pos (by omega)]
      · rw [if_neg (by omega), if_neg w, (p2.2.2 18 (by decide) (by decide)).2]
    refine ⟨n, am_cL x (32 + 2 * d.toNatClampNeg) (32 + 2 * e.toNatClampNeg) i.toNatClampNeg j.toNatClampNeg n.toNatClampNeg, m2, ?_, ?_, ?_, ?_, ?_⟩
    · have u1 : i.toNatClampNeg + n.toNatClampNeg ≤ 60 := by omega
      have u2 : j.toNatClampNeg + n.toNatClampNeg ≤ 60 := by omega
      have a9 : m.1 16 d.toNatClampNeg - 50 = m.1 16 e.toNatClampNeg - 50 := by rw [a7]
      simp only [f_Shelf_copyFrom_35, f_Shelf_copyFrom_20, f_Shelf_copyFrom_17, f_Shelf_copyFrom_10, f_Shelf_copyFrom_7, f_Shelf_copyFrom, p_hasPlaces hd, p_hasPlaces he, a1, a3, a5, a8, hsd.1, hse, a9, g1, g2, d1, d2, d3, u1, u2, ed, ee, and_self, decide_true, decide_false, if_true, if_false, Bool.false_eq_true, not_false_eq_true, Option.bind_some]
    · simp only [a2, a2e, a6e, a4, a6, a7, d1, d2, d3, d4, d5, if_true, if_false]
      have := p1.trans q1
      first | exact this | (rw [p1]; exact q1) | simp [a2, a2e, a6e, a4, a6, a7, d1, d2, d3, d4, d5, p1, q1]
    · refine h.upd l1 (sx.cL _ _ _ _ _ _ (by simp)) (fun q hq hne => ?_) m26 ?_
      · refine ⟨by rw [q3, p3], by rw [q3, p3], fun t ht => ?_⟩
        rw [m18, if_neg (by omega)]
      · obtain ⟨f1, f2, f3, f4, f5, f6⟩ := he
        refine ⟨?_, ?_, ?_, ?_, fun t ht => ?_, fun w t ht => ?_⟩
        · rw [q3, p3]; exact f1
        · rw [q3, p3]; exact f2
        · rw [q3, p3]; exact f3
        · rw [q3, p3]; exact f4
        · rw [hcL2, if_pos rfl, m18]
          by_cases w : j.toNatClampNeg ≤ t ∧ t < j.toNatClampNeg + n.toNatClampNeg
          · have w2 : 60 * d.toNatClampNeg + i.toNatClampNeg + (60 * e.toNatClampNeg + t - (60 * e.toNatClampNeg + j.toNatClampNeg)) = 60 * d.toNatClampNeg + (i.toNatClampNeg + (t - j.toNatClampNeg)) := by omega
            rw [if_pos w, if_pos (by omega), w2]
            exact hd.2.2.2.2.1 _ (by omega)
          · rw [if_neg w, if_neg (by omega)]
            exact f5 t ht
        · rw [q3, p3] at w
          rw [m18]
          by_cases w3 : j.toNatClampNeg ≤ t ∧ t < j.toNatClampNeg + n.toNatClampNeg
          · have w2 : 60 * d.toNatClampNeg + i.toNatClampNeg + (60 * e.toNatClampNeg + t - (60 * e.toNatClampNeg + j.toNatClampNeg)) = 60 * d.toNatClampNeg + (i.toNatClampNeg + (t - j.toNatClampNeg)) := by omega
            rw [if_pos (by omega), w2]
            exact hd.2.2.2.2.2 (a7.trans w) _ (by omega)
          · rw [if_neg (by omega)]
            exact f6 w t ht
    · exact sx.cL _ _ _ _ _ _ (shelf_mem l1 (Or.inr rfl))
    · exact (p2.mono (by simp) (by simp)).tr (q2.mono (by simp) (by simp))
  · refine no (-13) ?_ ?_
    · have a9 : m.1 16 d.toNatClampNeg - 50 = m.1 16 e.toNatClampNeg - 50 := by rw [a7]
      simp only [a1, a3, a5, a8, hsd.1, hse, a9, decide_true, decide_false, if_true, if_false, Bool.false_eq_true]
      by_cases g1 : 0 ≤ i.toInt ∧ 0 ≤ n.toInt ∧ i.toInt + n.toInt ≤ (m.1 17 d.toNatClampNeg).toInt
      · have g2 : ¬ (0 ≤ j.toInt ∧ 0 ≤ n.toInt ∧ j.toInt + n.toInt ≤ (m.1 17 e.toNatClampNeg).toInt) := fun q => g ⟨g1, q⟩
        rw [if_pos (decide_eq_true g1), if_neg (by rw [decide_eq_true_iff]; exact g2)]
      · simp only [g1, decide_false, if_false, Bool.false_eq_true]
    · simp only [a2, a2e, a6e, a4, a6, a7, if_true, if_false]
      by_cases d1 : n < 0
      · simp [a2, a2e, a6e, a4, a6, a7, d1]
      · by_cases d2 : i < 0
        · simp [a2, a2e, a6e, a4, a6, a7, d1, d2]
        · by_cases d3 : j < 0
          · simp [a2, a2e, a6e, a4, a6, a7, d1, d2, d3]
          · by_cases d4 : m.1 17 d.toNatClampNeg - n < i
            · simp [a2, a2e, a6e, a4, a6, a7, d1, d2, d3, d4]
            · have d5 : ¬ j ≤ m.1 17 e.toNatClampNeg - n := by
                rw [ti_lt] at d1 d2 d3 d4
                rw [ti_le]
                omega
              simp [a2, a2e, a6e, a4, a6, a7, d1, d2, d3, d4, d5]
