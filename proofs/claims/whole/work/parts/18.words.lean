/-! words kept, the trace, the tape -/
def RW (x m : am_H) : Prop := x.1 27 2 = m.1 0 26 ∧ 0 ≤ (m.1 0 26).toInt ∧ (m.1 0 26).toInt ≤ 50 ∧ (∀ i, i < 50 → x.1 28 i = m.1 14 i) ∧ (∀ i, i < 50 → 0 ≤ (m.1 14 i).toInt ∧ (m.1 14 i).toInt ≤ 7) ∧ x.1 27 3 = m.1 0 29 ∧ 0 ≤ (m.1 0 29).toInt ∧ (m.1 0 29).toInt ≤ 1000 ∧ (∀ i, i < 24 → x.1 29 i = m.1 15 i)
theorem RW.fx {x x2 m : am_H} {ks : List Nat} (h : RW x m) (s : sx ks x x2) (hk : 27 ∉ ks ∧ 28 ∉ ks ∧ 29 ∉ ks) : RW x2 m := by
  unfold RW at *
  rw [(s 27 hk.1).1, (s 28 hk.2.1).1, (s 29 hk.2.2).1]
  exact h
theorem RW.fm {x m m2 : am_H} {ss ks : List Nat} (h : RW x m) (s : sm ss ks m m2) (h1 : 26 ∉ ss ∧ 29 ∉ ss) (h2 : 14 ∉ ks ∧ 15 ∉ ks) : RW x m2 := by
  unfold RW at *
  rw [(s.2.2 14 (by decide) h2.1).1, (s.2.2 15 (by decide) h2.2).1, s.1 26 h1.1, s.1 29 h1.2]
  exact h
def wordB (m : am_H) (w : Int32) : Bool := decide (0 ≤ w.toInt ∧ w.toInt < (m.1 0 26).toInt)
theorem v_Words_hasWord {x m : am_H} (h : RW x m) (w : Int32) : f_Words_hasWord x w = wordB m w := by
  obtain ⟨h1, h2, h3, -⟩ := h
  simp only [f_Words_hasWord_22, f_Words_hasWord_18, f_Words_hasWord_12, f_Words_hasWord_4, f_Words_hasWord, wordB, h1, ti_lt, ti_le, ti_eq, ti_add, ti_sub, ti_neg, ti_lt64, ti_le64, ti_eq64, ti_wide, Int32.reduceToInt, Int64.reduceToInt]
  split
  · symm; rw [decide_eq_false_iff_not]; omega
  · split
    · symm; rw [decide_eq_false_iff_not]; omega
    · split
      · symm; rw [decide_eq_false_iff_not]; omega
      · symm; rw [decide_eq_true_iff]; omega
theorem v_Model_isBody {x m : am_H} (h : RW x m) (w : Int32) : f_Model_isBody m w = wordB m w := by
  obtain ⟨h1, h2, h3, -⟩ := h
  simp only [f_Model_isBody_13, f_Model_isBody, v_Model_within32, wordB, ti_wide, ti_sub, Int32.reduceToInt, Int64.reduceToInt]
  rw [decide_eq_decide]
  omega
theorem v_Words_isKind (k : Int32) : f_Words_isKind k = decide (0 ≤ k.toInt ∧ k.toInt ≤ 7) := by
  simp only [f_Words_isKind_16, f_Words_isKind_12, f_Words_isKind_4, f_Words_isKind, ti_lt, ti_le, ti_eq, ti_add, ti_sub, ti_neg, ti_lt64, ti_le64, ti_eq64, ti_wide, Int32.reduceToInt, Int64.reduceToInt]
  split
  · symm; rw [decide_eq_false_iff_not]; omega
  · split
    · symm; rw [decide_eq_false_iff_not]; omega
    · symm; rw [decide_eq_true_iff]; omega
theorem E_body {x m : am_H} (h : RW x m) (k : Int32) : ∃ r x2 m2, f_Club_body x k = some (r, x2) ∧ f_Model_body m k = some (r, m2) ∧ RW x2 m2 ∧ sx [27, 28] x x2 ∧ sm [26] [14] m m2 := by
  obtain ⟨h1, h2, h3, h4, h5, h6, h7, h8, h9⟩ := id h
  simp only [f_Club_body_32, f_Club_body_24, f_Club_body_19, f_Club_body_16, f_Club_body_9, f_Club_body_7, f_Club_body_4, f_Club_body, f_Words_isFull_13, f_Words_isFull_9, f_Words_isFull, f_Words_addWord_16, f_Words_addWord_19, f_Words_addWord_7, f_Words_addWord, f_Model_body_26, f_Model_body_23, f_Model_body_14, f_Model_body_12, f_Model_body_9, f_Model_body, v_Words_isKind, v_Model_within32, Int64.reduceToInt, h1]
  cases e : decide (0 ≤ k.toInt ∧ k.toInt ≤ 7) with
  | false => exact ⟨-1, x, m, rfl, rfl, h, sx.rf _ _, sm.rf _ _ _⟩
  | true =>
    have e2 := of_decide_eq_true e
    by_cases f : m.1 0 26 = 50
    · have f1 : ¬ m.1 0 26 < 50 := by rw [f]; decide
      exact ⟨-3, x, m, by simp only [f1, if_true, if_false, Bool.false_eq_true], by simp only [f, if_true], h, sx.rf _ _, sm.rf _ _ _⟩
    · have f1 : m.1 0 26 < 50 := by (simp only [ti_lt, ti_le, ti_eq, ti_add, ti_sub, ti_neg, ti_lt64, ti_le64, ti_eq64, ti_wide, Int32.reduceToInt, Int64.reduceToInt] at * <;> omega)
      have f2 : ¬ m.1 0 26 < 0 := by (simp only [ti_lt, ti_le, ti_eq, ti_add, ti_sub, ti_neg, ti_lt64, ti_le64, ti_eq64, ti_wide, Int32.reduceToInt, Int64.reduceToInt] at * <;> omega)
      have f3 : am_ok (m.1 0 26) 50 = true := ok_of (by rw [ti_lt] at f1; have : (50 : Int32).toInt = 50 := rfl; omega)
      have a1 := ti_add (m.1 0 26) 1
      have z1 : (1 : Int32).toInt = 1 := rfl
      rw [z1] at a1
      refine ⟨m.1 0 26 + 1 - 1, am_pI (am_pI x 28 (m.1 0 26).toNatClampNeg k) 27 2 (m.1 0 26 + 1), am_pI (am_pI m 14 (m.1 0 26).toNatClampNeg k) 0 26 (m.1 0 26 + 1), ?_, ?_, ?_, ?_, ?_⟩
      · simp [-Int32.toInt_add, -Int32.toInt_sub, -Int32.toInt_neg, -Int32.toInt_mul, -Int32.toInt_div, f1, f2, f3, hI1, h1]
      · simp [-Int32.toInt_add, -Int32.toInt_sub, -Int32.toInt_neg, -Int32.toInt_mul, -Int32.toInt_div, f, f3, hI1]
      · rw [ti_lt] at f1
        have z50 : (50 : Int32).toInt = 50 := rfl
        refine ⟨?_, ?_, ?_, ?_, ?_, ?_, ?_, ?_, ?_⟩
        all_goals simp only [hI1]
        · simp [-Int32.toInt_add, -Int32.toInt_sub, -Int32.toInt_neg, -Int32.toInt_mul, -Int32.toInt_div]
        · simp [-Int32.toInt_add, -Int32.toInt_sub, -Int32.toInt_neg, -Int32.toInt_mul, -Int32.toInt_div]; omega
        · simp [-Int32.toInt_add, -Int32.toInt_sub, -Int32.toInt_neg, -Int32.toInt_mul, -Int32.toInt_div]; omega
        · intro i hi; simp [-Int32.toInt_add, -Int32.toInt_sub, -Int32.toInt_neg, -Int32.toInt_mul, -Int32.toInt_div]; rw [h4 i hi]
        · intro i hi; simp [-Int32.toInt_add, -Int32.toInt_sub, -Int32.toInt_neg, -Int32.toInt_mul, -Int32.toInt_div]; split <;> first | exact h5 i hi | omega
        · simp [-Int32.toInt_add, -Int32.toInt_sub, -Int32.toInt_neg, -Int32.toInt_mul, -Int32.toInt_div, h6]
        · simp [-Int32.toInt_add, -Int32.toInt_sub, -Int32.toInt_neg, -Int32.toInt_mul, -Int32.toInt_div]; exact h7
        · simp [-Int32.toInt_add, -Int32.toInt_sub, -Int32.toInt_neg, -Int32.toInt_mul, -Int32.toInt_div]; exact h8
        · intro i hi; simp [-Int32.toInt_add, -Int32.toInt_sub, -Int32.toInt_neg, -Int32.toInt_mul, -Int32.toInt_div]; exact h9 i hi
      · exact (sx.pI _ _ _ _ (by decide)).tr (sx.pI _ _ _ _ (by decide))
      · exact (sm.pI _ _ _ _ (by decide) (by decide)).tr (sm.p0 _ _ _ (by decide))
theorem E_trace {x m : am_H} (h : RW x m) (i : Int32) : ∃ r, f_Club_trace x i = some r ∧ f_Model_trace m i = some r := by
  obtain ⟨h1, h2, h3, h4, h5, h6, h7, h8, h9⟩ := id h
  simp only [f_Club_trace_15, f_Club_trace_27, f_Club_trace_19, f_Club_trace_12, f_Club_trace_4, f_Club_trace, f_Words_ranKept, f_Words_ranAt_19, f_Words_ranAt_10, f_Words_ranAt_4, f_Words_ranAt, f_Model_trace_27, f_Model_trace_18, f_Model_trace_12, f_Model_trace_4, f_Model_trace, h6]
  by_cases e1 : i < 0
  · exact ⟨-1, by simp only [e1, if_true], by simp only [e1, if_true]⟩
  have e1' : 0 ≤ i.toInt := by (simp only [ti_lt, ti_le, ti_eq, ti_add, ti_sub, ti_neg, ti_lt64, ti_le64, ti_eq64, ti_wide, Int32.reduceToInt, Int64.reduceToInt] at * <;> omega)
  by_cases e2 : 24 ≤ i
  · have e3 : ¬ i < (if 24 < m.1 0 29 then 24 else m.1 0 29) := by
      split
      · (simp only [ti_lt, ti_le, ti_eq, ti_add, ti_sub, ti_neg, ti_lt64, ti_le64, ti_eq64, ti_wide, Int32.reduceToInt, Int64.reduceToInt] at * <;> omega)
      · (simp only [ti_lt, ti_le, ti_eq, ti_add, ti_sub, ti_neg, ti_lt64, ti_le64, ti_eq64, ti_wide, Int32.reduceToInt, Int64.reduceToInt] at * <;> omega)
    refine ⟨-1, by simp only [e1, e3, if_false, Bool.false_eq_true], ?_⟩
    simp only [e1, e2, if_true, if_false, Bool.false_eq_true]
    split <;> rfl
  · have e2' : i.toInt < 24 := by (simp only [ti_lt, ti_le, ti_eq, ti_add, ti_sub, ti_neg, ti_lt64, ti_le64, ti_eq64, ti_wide, Int32.reduceToInt, Int64.reduceToInt] at * <;> omega)
    have hn : i.toNatClampNeg < 24 := by rw [ti_nat]; omega
    by_cases e4 : m.1 0 29 ≤ i
    · have e3 : ¬ i < (if 24 < m.1 0 29 then 24 else m.1 0 29) := by
        split
        · (simp only [ti_lt, ti_le, ti_eq, ti_add, ti_sub, ti_neg, ti_lt64, ti_le64, ti_eq64, ti_wide, Int32.reduceToInt, Int64.reduceToInt] at * <;> omega)
        · (simp only [ti_lt, ti_le, ti_eq, ti_add, ti_sub, ti_neg, ti_lt64, ti_le64, ti_eq64, ti_wide, Int32.reduceToInt, Int64.reduceToInt] at * <;> omega)
      exact ⟨-1, by simp only [e1, e3, if_false, Bool.false_eq_true], by simp only [e1, e4, if_true, if_false, Bool.false_eq_true]⟩
    · have e3 : i < (if 24 < m.1 0 29 then 24 else m.1 0 29) := by
        split
        · (simp only [ti_lt, ti_le, ti_eq, ti_add, ti_sub, ti_neg, ti_lt64, ti_le64, ti_eq64, ti_wide, Int32.reduceToInt, Int64.reduceToInt] at * <;> omega)
        · (simp only [ti_lt, ti_le, ti_eq, ti_add, ti_sub, ti_neg, ti_lt64, ti_le64, ti_eq64, ti_wide, Int32.reduceToInt, Int64.reduceToInt] at * <;> omega)
      exact ⟨m.1 15 i.toNatClampNeg, by simp only [e1, e2, e3, if_true, if_false, Bool.false_eq_true, ok_of (i := i) (n := 24) (by omega), Option.bind_some, h9 _ hn], by simp only [e1, e2, e4, if_true, if_false, Bool.false_eq_true, ok_of (i := i) (n := 24) (by omega)]⟩
def RT0 (x m : am_H) : Prop := x.1 6 5 = m.1 0 8 ∧ 0 ≤ (m.1 0 8).toInt ∧ (m.1 0 8).toInt ≤ 120 ∧ (∀ i, i < 120 → x.1 7 i = m.1 5 i) ∧ (∀ i, i < 120 → 0 ≤ (m.1 5 i).toInt ∧ (m.1 5 i).toInt ≤ 255)
theorem RT0.fx {x x2 m : am_H} {ks : List Nat} (h : RT0 x m) (s : sx ks x x2) (hk : 6 ∉ ks ∧ 7 ∉ ks) : RT0 x2 m := by
  unfold RT0 at *
  rw [(s 6 hk.1).1, (s 7 hk.2).1]
  exact h
theorem RT0.fm {x m m2 : am_H} {ss ks : List Nat} (h : RT0 x m) (s : sm ss ks m m2) (h1 : 8 ∉ ss) (h2 : 5 ∉ ks) : RT0 x m2 := by
  unfold RT0 at *
  rw [(s.2.2 5 (by decide) h2).1, s.1 8 h1]
  exact h
/-- of place k nothing but the slots ss was written -/
def sxs (k : Nat) (ss : List Nat) (h h2 : am_H) : Prop := ∀ i, i ∉ ss → h2.1 k i = h.1 k i
theorem E_feed {x m : am_H} (h : RT0 x m) (b : Int32) : ∃ r x2 m2, f_Club_feed x b = some (r, x2) ∧ f_Model_feed m b = some (r, m2) ∧ RT0 x2 m2 ∧ sx [6, 7] x x2 ∧ sxs 6 [5] x x2 ∧ sm [8] [5] m m2 := by
  obtain ⟨h1, h2, h3, h4, h5⟩ := id h
  simp only [f_Club_feed_11, f_Club_feed_36, f_Club_feed_28, f_Club_feed_23, f_Club_feed_20, f_Club_feed_13, f_Club_feed_4, f_Club_feed, f_Law_isTapeFull_13, f_Law_isTapeFull_9, f_Law_isTapeFull, f_Law_addByte_16, f_Law_addByte_19, f_Law_addByte_7, f_Law_addByte, f_Model_feed_26, f_Model_feed_23, f_Model_feed_14, f_Model_feed_12, f_Model_feed_9, f_Model_feed, v_Model_within32, Int64.reduceToInt, h1]
  by_cases e : decide (0 ≤ b.toInt ∧ b.toInt ≤ 255) = true
  · have e2 := of_decide_eq_true e
    have b1 : ¬ b < 0 := by (simp only [ti_lt, ti_le, ti_eq, ti_add, ti_sub, ti_neg, ti_lt64, ti_le64, ti_eq64, ti_wide, Int32.reduceToInt, Int64.reduceToInt] at * <;> omega)
    have b2 : b ≤ 255 := by (simp only [ti_lt, ti_le, ti_eq, ti_add, ti_sub, ti_neg, ti_lt64, ti_le64, ti_eq64, ti_wide, Int32.reduceToInt, Int64.reduceToInt] at * <;> omega)
    by_cases f : m.1 0 8 = 120
    · have f1 : ¬ m.1 0 8 < 120 := by rw [f]; decide
      exact ⟨-3, x, m, by simp only [b1, b2, f1, if_true, if_false, Bool.false_eq_true], by simp only [e, f, if_true], h, sx.rf _ _, fun _ _ => rfl, sm.rf _ _ _⟩
    · have f1 : m.1 0 8 < 120 := by (simp only [ti_lt, ti_le, ti_eq, ti_add, ti_sub, ti_neg, ti_lt64, ti_le64, ti_eq64, ti_wide, Int32.reduceToInt, Int64.reduceToInt] at * <;> omega)
      have f2 : ¬ m.1 0 8 < 0 := by (simp only [ti_lt, ti_le, ti_eq, ti_add, ti_sub, ti_neg, ti_lt64, ti_le64, ti_eq64, ti_wide, Int32.reduceToInt, Int64.reduceToInt] at * <;> omega)
      have f1' : (m.1 0 8).toInt < 120 := by (simp only [ti_lt, ti_le, ti_eq, ti_add, ti_sub, ti_neg, ti_lt64, ti_le64, ti_eq64, ti_wide, Int32.reduceToInt, Int64.reduceToInt] at * <;> omega)
      have f3 : am_ok (m.1 0 8) 120 = true := ok_of (by omega)
      have a1 := ti_add (m.1 0 8) 1
      have z1 : (1 : Int32).toInt = 1 := rfl
      rw [z1] at a1
      refine ⟨m.1 0 8 + 1, am_pI (am_pI x 7 (m.1 0 8).toNatClampNeg b) 6 5 (m.1 0 8 + 1), am_pI (am_pI m 5 (m.1 0 8).toNatClampNeg b) 0 8 (m.1 0 8 + 1), ?_, ?_, ?_, ?_, ?_, ?_⟩
      · simp [-Int32.toInt_add, -Int32.toInt_sub, -Int32.toInt_neg, -Int32.toInt_mul, -Int32.toInt_div, b1, b2, f1, f2, f3, hI1, h1]
      · simp only [e]; simp [-Int32.toInt_add, -Int32.toInt_sub, -Int32.toInt_neg, -Int32.toInt_mul, -Int32.toInt_div, f, f3, hI1]
      · refine ⟨?_, ?_, ?_, ?_, ?_⟩
        all_goals simp only [hI1]
        · simp [-Int32.toInt_add, -Int32.toInt_sub, -Int32.toInt_neg, -Int32.toInt_mul, -Int32.toInt_div]
        · simp [-Int32.toInt_add, -Int32.toInt_sub, -Int32.toInt_neg, -Int32.toInt_mul, -Int32.toInt_div]; omega
        · simp [-Int32.toInt_add, -Int32.toInt_sub, -Int32.toInt_neg, -Int32.toInt_mul, -Int32.toInt_div]; omega
        · intro i hi; simp [-Int32.toInt_add, -Int32.toInt_sub, -Int32.toInt_neg, -Int32.toInt_mul, -Int32.toInt_div]; rw [h4 i hi]
        · intro i hi; simp [-Int32.toInt_add, -Int32.toInt_sub, -Int32.toInt_neg, -Int32.toInt_mul, -Int32.toInt_div]; split <;> first | exact h5 i hi | omega
      · exact (sx.pI _ _ _ _ (by decide)).tr (sx.pI _ _ _ _ (by decide))
      · intro i hi
        simp only [hI1]
        simp at hi
        simp [hi]
      · exact (sm.pI _ _ _ _ (by decide) (by decide)).tr (sm.p0 _ _ _ (by decide))
  · have e3 : decide (0 ≤ b.toInt ∧ b.toInt ≤ 255) = false := by simpa using e
    rw [decide_eq_true_iff] at e
    refine ⟨-1, x, m, ?_, by simp only [e3] <;> rfl, h, sx.rf _ _, fun _ _ => rfl, sm.rf _ _ _⟩
    by_cases b1 : b < 0
    · simp only [b1, if_true]
    · have b2 : ¬ b ≤ 255 := by (simp only [ti_lt, ti_le, ti_eq, ti_add, ti_sub, ti_neg, ti_lt64, ti_le64, ti_eq64, ti_wide, Int32.reduceToInt, Int64.reduceToInt] at * <;> omega)
      simp only [b1, b2, if_false, Bool.false_eq_true]
