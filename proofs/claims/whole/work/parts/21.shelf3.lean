/-! row, put, shift, taken -/
theorem shelf_mem {d : Nat} (hd : d < 6) {q : Nat} (hq : q = 31 + 2 * d ∨ q = 32 + 2 * d) : q ∈ [31, 32, 33, 34, 35, 36, 37, 38, 39, 40, 41, 42] := by
  simp; omega
theorem v_Shelf_isSort (s : Int32) : f_Shelf_isSort s = decide (0 ≤ s.toInt ∧ s.toInt ≤ 4) := by
  simp only [f_Shelf_isSort_13, f_Shelf_isSort_9, f_Shelf_isSort_4, f_Shelf_isSort, ti_lt, ti_le, ti_eq, ti_add, ti_sub, ti_neg, ti_lt64, ti_le64, ti_eq64, ti_wide, Int32.reduceToInt, Int64.reduceToInt]
  split
  · symm; rw [decide_eq_false_iff_not]; omega
  · split
    · symm; rw [decide_eq_false_iff_not]; omega
    · symm; rw [decide_eq_true_iff]; omega
theorem l_Model_row {d : Int32} (hd : shelfB d = true) : ∀ (k n : Nat) (i : Int32) (m : am_H), k < n → (k : Int) = 60 * d.toInt + 60 - i.toInt → 60 * d.toInt ≤ i.toInt → ∃ m2, f_Model_row_57_l n m d i = some (1, m2) ∧ sm [] [18] m m2 ∧ m2.1 = m.1 ∧ ∀ j : Nat, m2.2 18 j = if i.toInt ≤ j ∧ (j : Int) < 60 * d.toInt + 60 then 0 else m.2 18 j := by
  have h1 := of_decide_eq_true hd
  have e1 := ti_mul 60 d
  have z : (60 : Int32).toInt = 60 := rfl
  rw [z] at e1
  have e3 : (60 * d).toInt = 60 * d.toInt := by omega
  have e4 := ti_add (60 * d) 60
  rw [z, e3] at e4
  have e5 : (60 * d + 60).toInt = 60 * d.toInt + 60 := by omega
  intro k
  induction k with
  | zero =>
    intro n i m hn hk hi
    obtain ⟨n, rfl⟩ : ∃ j, n = j + 1 := ⟨n - 1, by omega⟩
    have e : 60 * d + 60 ≤ i := by rw [ti_le, e5]; omega
    refine ⟨m, ?_, sm.rf _ _ _, rfl, fun j => ?_⟩
    · show f_Model_row_57 (f_Model_row_57_l n) m d i = _
      simp only [f_Model_row_25, f_Model_row_83, f_Model_row_69, f_Model_row_57, f_Model_row_34, f_Model_row_31, f_Model_row_27, f_Model_row_19, f_Model_row_16, f_Model_row_7, f_Model_row_4, f_Model_row, if_pos e]
    · rw [if_neg (by omega)]
  | succ k ih =>
    intro n i m hn hk hi
    obtain ⟨n, rfl⟩ : ∃ j, n = j + 1 := ⟨n - 1, by omega⟩
    have e : ¬ 60 * d + 60 ≤ i := by rw [ti_le, e5]; omega
    have e6 := ti_add i 1
    have z1 : (1 : Int32).toInt = 1 := rfl
    rw [z1] at e6
    have e7 : (i + 1).toInt = i.toInt + 1 := by omega
    obtain ⟨m2, a, b, b2, c⟩ := ih n (i + 1) (am_pL m 18 i.toNatClampNeg 0) (by omega) (by omega) (by omega)
    refine ⟨m2, ?_, (sm.pL m 18 _ _ (by decide) (by decide)).tr b, b2, fun j => ?_⟩
    · show f_Model_row_57 (f_Model_row_57_l n) m d i = _
      simp only [f_Model_row_25, f_Model_row_83, f_Model_row_69, f_Model_row_57, f_Model_row_34, f_Model_row_31, f_Model_row_27, f_Model_row_19, f_Model_row_16, f_Model_row_7, f_Model_row_4, f_Model_row, if_neg e, ok_of (i := i) (n := 360) (by omega), if_true]
      exact a
    · rw [c j, hL2]
      have hj := ti_mk (i := i) (by omega)
      by_cases q : (j : Int) = i.toInt
      · rw [if_neg (by omega), if_pos ⟨rfl, by omega⟩, if_pos (by omega)]
      · by_cases q3 : (i + 1).toInt ≤ j ∧ (j : Int) < 60 * d.toInt + 60
        · rw [if_pos q3, if_pos (by omega)]
        · rw [if_neg q3, if_neg (by omega), if_neg (by omega)]
theorem E_row {x m : am_H} (h : RS x m) (d s n : Int32) : ∃ r x2 m2, f_Club_row x d s n = some (r, x2) ∧ f_Model_row m d s n = some (r, m2) ∧ RS x2 m2 ∧ sx [31, 32, 33, 34, 35, 36, 37, 38, 39, 40, 41, 42] x x2 ∧ sm [] [16, 17, 18] m m2 := by
  simp only [f_Club_row_20, f_Club_row_40, f_Club_row_29, f_Club_row_26, f_Club_row_22, f_Club_row_14, f_Club_row_11, f_Club_row_7, f_Club_row_4, f_Club_row, f_Model_row_25, f_Model_row_83, f_Model_row_69, f_Model_row_57, f_Model_row_34, f_Model_row_31, f_Model_row_27, f_Model_row_19, f_Model_row_16, f_Model_row_7, f_Model_row_4, f_Model_row, f_Shelf_holdRow_12, f_Shelf_holdRow_4, f_Shelf_holdRow, f_Shelf_holdNothing, v_Club_isShelf, v_Model_isShelf, v_Shelf_isSort, v_Model_within32, Int64.reduceToInt]
  cases e : shelfB d with
  | false => exact ⟨_, x, m, rfl, rfl, h, sx.rf _ _, sm.rf _ _ _⟩
  | true =>
    cases f : decide (0 ≤ s.toInt ∧ s.toInt ≤ 4) with
    | false => exact ⟨-1, x, m, rfl, rfl, h, sx.rf _ _, sm.rf _ _ _⟩
    | true =>
      have f2 := of_decide_eq_true f
      have z0 : (0 : Int32).toInt = 0 := rfl
      have z60 : (60 : Int32).toInt = 60 := rfl
      obtain ⟨k1, k2, k3, k4⟩ := shelf_at e
      by_cases g : n ≤ 60
      · by_cases g2 : 0 ≤ n
        · have g' : n.toInt ≤ 60 := by rw [ti_le] at g; omega
          have g2' : 0 ≤ n.toInt := by rw [ti_le] at g2; omega
          have e1 := ti_mul 60 d
          rw [z60] at e1
          have h1 := of_decide_eq_true e
          have e3 : (60 * d).toInt = 60 * d.toInt := by omega
          obtain ⟨x2, a1, a2, a3, a4⟩ := p_fill (am_pI (am_pI (am_pI x (31 + 2 * d.toNatClampNeg) 1 (-1)) (31 + 2 * d.toNatClampNeg) 2 (-1)) (31 + 2 * d.toNatClampNeg) 3 0) (31 + 2 * d.toNatClampNeg + 1) 60 0 (by decide)
          obtain ⟨m2, b1, b2, b3, b4⟩ := l_Model_row e 60 am_fu (60 * d) (am_pI (am_pI m 16 d.toNatClampNeg (50 + s)) 17 d.toNatClampNeg n) (by unfold am_fu; omega) (by omega) (by omega)
          have hmin : (if (0 : Int32) < (if n < (60 : Int32) then n else (60 : Int32)) then (if n < (60 : Int32) then n else (60 : Int32)) else (0 : Int32)) = n := by
            by_cases q : n < 60
            · rw [if_pos q]
              by_cases q2 : 0 < n
              · rw [if_pos q2]
              · rw [if_neg q2, ti_eq]; rw [ti_lt] at q2; omega
            · have : n = 60 := by rw [ti_eq]; rw [ti_lt] at q; omega
              rw [if_neg q, this]; decide
          have smm : sm [] [16, 17, 18] m m2 := ((sm.pI _ _ _ _ (by decide) (by decide)).tr (sm.pI _ _ _ _ (by decide) (by decide))).tr (b2.mono (by simp) (by simp))
          have sxx : sx [31 + 2 * d.toNatClampNeg, 32 + 2 * d.toNatClampNeg] x (am_pI (am_pI x2 (31 + 2 * d.toNatClampNeg) 2 s) (31 + 2 * d.toNatClampNeg) 3 n) := by
            refine ((((((sx.pI _ _ _ _ (by simp)).tr (sx.pI _ _ _ _ (by simp))).tr (sx.pI _ _ _ _ (by simp))).tr (a2.mono ?_)).tr (sx.pI _ _ _ _ (by simp))).tr (sx.pI _ _ _ _ (by simp)))
            intro q hq
            simp at hq
            simp; omega
          refine ⟨1, am_pI (am_pI x2 (31 + 2 * d.toNatClampNeg) 2 s) (31 + 2 * d.toNatClampNeg) 3 n, m2, ?_, ?_, ?_, sxx.mono (fun q hq => shelf_mem k1 (by simpa using hq)), smm⟩
          · simp only [g, g2, k2, k3, if_true, a1, Option.bind_some, hmin]
          · simp only [g, g2, k2, if_true, b1]
          · have c16 : ∀ j, m2.1 16 j = if j = d.toNatClampNeg then 50 + s else m.1 16 j := by intro j; rw [b3]; simp [-Int32.toInt_add, -Int32.toInt_sub, -Int32.toInt_neg, -Int32.toInt_mul, -Int32.toInt_div, hI1]
            have c17 : ∀ j, m2.1 17 j = if j = d.toNatClampNeg then n else m.1 17 j := by intro j; rw [b3]; simp [-Int32.toInt_add, -Int32.toInt_sub, -Int32.toInt_neg, -Int32.toInt_mul, -Int32.toInt_div, hI1]
            have e5 := ti_add 50 s
            have z50 : (50 : Int32).toInt = 50 := rfl
            rw [z50] at e5
            have e6 : (50 + s).toInt = 50 + s.toInt := by omega
            refine h.upd k1 sxx (fun q hq hne => ?_) (smm.1 26 (by simp)) ?_
            · refine ⟨by rw [c16, if_neg hne], by rw [c17, if_neg hne], fun i hi => ?_⟩
              rw [b4, if_neg (by omega)]; rfl
            · unfold RS1
              rw [c16, c17, if_pos rfl, if_pos rfl]
              refine ⟨by simp [-Int32.toInt_add, -Int32.toInt_sub, -Int32.toInt_neg, -Int32.toInt_mul, -Int32.toInt_div, hI1], g2', g', Or.inr (Or.inr ⟨by omega, by omega, ?_, ?_⟩), fun i hi => ?_, fun _ i hi => ?_⟩
              · simp only [hI1, a3]; simp [-Int32.toInt_add, -Int32.toInt_sub, -Int32.toInt_neg, -Int32.toInt_mul, -Int32.toInt_div]
              · simp only [hI1]; simp [-Int32.toInt_add, -Int32.toInt_sub, -Int32.toInt_neg, -Int32.toInt_mul, -Int32.toInt_div]; rw [ti_eq, ti_sub, e6]; omega
              · rw [b4, if_pos (by omega)]
                have : (am_pI (am_pI x2 (31 + 2 * d.toNatClampNeg) 2 s) (31 + 2 * d.toNatClampNeg) 3 n).2 = x2.2 := rfl
                have e9 : 32 + 2 * d.toNatClampNeg = 31 + 2 * d.toNatClampNeg + 1 := by omega
                rw [this, e9, a4, if_pos hi]
              · rw [b4, if_pos (by omega)]; decide
        · exact ⟨-14, x, m, by simp only [g, g2, if_true, if_false], by simp only [g, g2, if_true, if_false], h, sx.rf _ _, sm.rf _ _ _⟩
      · exact ⟨-1, x, m, by simp only [g, if_true, if_false], by simp only [g, if_true, if_false], h, sx.rf _ _, sm.rf _ _ _⟩
