/-! shelves -/
def shelfB (d : Int32) : Bool := decide (0 ≤ d.toInt ∧ d.toInt ≤ 5)
theorem v_Club_isShelf (d : Int32) : f_Club_isShelf d = shelfB d := by
  simp only [f_Club_isShelf_14, f_Club_isShelf_10, f_Club_isShelf_4, f_Club_isShelf, shelfB, ti_lt, ti_le, ti_eq, ti_add, ti_sub, ti_neg, ti_lt64, ti_le64, ti_eq64, ti_wide, Int32.reduceToInt, Int64.reduceToInt]
  split
  · symm; rw [decide_eq_false_iff_not]; omega
  · split
    · symm; rw [decide_eq_false_iff_not]; omega
    · symm; rw [decide_eq_true_iff]; omega
theorem v_Model_isShelf (d : Int32) : f_Model_isShelf d = shelfB d := by
  simp only [f_Model_isShelf_9, f_Model_isShelf, v_Model_within32, Int64.reduceToInt] <;> rfl
theorem shelf_at {d : Int32} (h : shelfB d = true) : d.toNatClampNeg < 6 ∧ am_ok d 6 = true ∧ am_shp d = 31 + 2 * d.toNatClampNeg ∧ (d.toNatClampNeg : Int) = d.toInt := by
  have h1 := of_decide_eq_true h
  refine ⟨by rw [ti_nat]; omega, ok_of (by omega), rfl, ti_mk (by omega)⟩
/-- what shelf d holds, on both sides -/
def RS1 (x m : am_H) (d : Nat) : Prop :=
  x.1 (31 + 2 * d) 3 = m.1 17 d ∧ 0 ≤ (m.1 17 d).toInt ∧ (m.1 17 d).toInt ≤ 60 ∧
  ((m.1 16 d = -1 ∧ x.1 (31 + 2 * d) 1 = -1 ∧ x.1 (31 + 2 * d) 2 = -1 ∧ m.1 17 d = 0) ∨
   (0 ≤ (m.1 16 d).toInt ∧ (m.1 16 d).toInt < (m.1 0 26).toInt ∧ (m.1 16 d).toInt < 50 ∧ x.1 (31 + 2 * d) 1 = m.1 16 d ∧ x.1 (31 + 2 * d) 2 = -1 ∧ m.1 17 d = 0) ∨
   (50 ≤ (m.1 16 d).toInt ∧ (m.1 16 d).toInt ≤ 54 ∧ x.1 (31 + 2 * d) 1 = -1 ∧ x.1 (31 + 2 * d) 2 = m.1 16 d - 50)) ∧
  (∀ i, i < 60 → x.2 (32 + 2 * d) i = m.2 18 (60 * d + i)) ∧
  (m.1 16 d = 50 → ∀ i, i < 60 → -128 ≤ (m.2 18 (60 * d + i)).toInt ∧ (m.2 18 (60 * d + i)).toInt ≤ 127)
def RS (x m : am_H) : Prop := ∀ d, d < 6 → RS1 x m d
theorem RS1.of {x m x2 m2 : am_H} {d : Nat} (h : RS1 x m d) (h1 : x2.1 (31 + 2 * d) = x.1 (31 + 2 * d)) (h2 : ∀ i, i < 60 → x2.2 (32 + 2 * d) i = x.2 (32 + 2 * d) i) (h3 : m2.1 16 d = m.1 16 d) (h4 : m2.1 17 d = m.1 17 d) (h5 : ∀ i, i < 60 → m2.2 18 (60 * d + i) = m.2 18 (60 * d + i)) (h6 : (m.1 0 26).toInt ≤ (m2.1 0 26).toInt) : RS1 x2 m2 d := by
  obtain ⟨a, b, c, e, f, g⟩ := h
  unfold RS1
  rw [h1, h3, h4]
  refine ⟨a, b, c, ?_, fun i hi => ?_, fun hs i hi => ?_⟩
  · rcases e with e | ⟨e1, e2, e3, e4, e5, e6⟩ | e
    · exact Or.inl e
    · exact Or.inr (Or.inl ⟨e1, by omega, e3, e4, e5, e6⟩)
    · exact Or.inr (Or.inr e)
  · rw [h2 i hi, h5 i hi]; exact f i hi
  · rw [h5 i hi]; exact g hs i hi
theorem RS.fx {x x2 m : am_H} {ks : List Nat} (h : RS x m) (s : sx ks x x2) (hk : ∀ k ∈ ks, k < 31) : RS x2 m := by
  intro d hd
  have a1 : 31 + 2 * d ∉ ks := fun q => by have := hk _ q; omega
  have a2 : 32 + 2 * d ∉ ks := fun q => by have := hk _ q; omega
  exact (h d hd).of (s _ a1).1 (fun i _ => by rw [(s _ a2).2]) rfl rfl (fun _ _ => rfl) (Int.le_refl _)
theorem RS.fm {x m m2 : am_H} {ss ks : List Nat} (h : RS x m) (s : sm ss ks m m2) (h1 : 16 ∉ ks ∧ 17 ∉ ks ∧ 18 ∉ ks) (h2 : (m.1 0 26).toInt ≤ (m2.1 0 26).toInt) : RS x m2 := by
  intro d hd
  exact (h d hd).of rfl (fun _ _ => rfl) (by rw [(s.2.2 16 (by decide) h1.1).1]) (by rw [(s.2.2 17 (by decide) h1.2.1).1]) (fun i _ => by rw [(s.2.2 18 (by decide) h1.2.2).2]) h2
theorem p_isEmpty {x m : am_H} {d : Nat} (h : RS1 x m d) : f_Shelf_isEmpty x (31 + 2 * d) = decide ((m.1 16 d).toInt < 0) := by
  obtain ⟨a, b, c, e, f, g⟩ := h
  simp only [f_Shelf_isEmpty_20, f_Shelf_isEmpty_16, f_Shelf_isEmpty_8, f_Shelf_isEmpty]
  have zm : (-1 : Int32).toInt = -1 := rfl
  rcases e with ⟨e1, e2, e3, e4⟩ | ⟨e1, e2, e3, e4, e5, e6⟩ | ⟨e1, e2, e3, e4⟩
  · rw [if_pos e2, if_pos e3, e1]; rfl
  · have : ¬ x.1 (31 + 2 * d) 1 = -1 := by rw [e4, ti_eq]; omega
    rw [if_neg this]; symm; rw [decide_eq_false_iff_not]; omega
  · have e5 := ti_sub (m.1 16 d) 50
    have z50 : (50 : Int32).toInt = 50 := rfl
    have : ¬ x.1 (31 + 2 * d) 2 = -1 := by rw [e4, ti_eq]; omega
    rw [if_pos e3, if_neg this]; symm; rw [decide_eq_false_iff_not]; omega
theorem p_isRow {x m : am_H} {d : Nat} (h : RS1 x m d) : f_Shelf_isRow x (31 + 2 * d) = decide (50 ≤ (m.1 16 d).toInt) := by
  obtain ⟨a, b, c, e, f, g⟩ := h
  simp only [f_Shelf_isRow_12, f_Shelf_isRow_8, f_Shelf_isRow]
  have zm : (-1 : Int32).toInt = -1 := rfl
  rcases e with ⟨e1, e2, e3, e4⟩ | ⟨e1, e2, e3, e4, e5, e6⟩ | ⟨e1, e2, e3, e4⟩
  · rw [if_pos e3, e1]; rfl
  · rw [if_pos e5]; symm; rw [decide_eq_false_iff_not]; omega
  · have e5 := ti_sub (m.1 16 d) 50
    have z50 : (50 : Int32).toInt = 50 := rfl
    have : ¬ x.1 (31 + 2 * d) 2 = -1 := by rw [e4, ti_eq]; omega
    rw [if_neg this]; symm; rw [decide_eq_true_iff]; omega
theorem p_isByteRow {x m : am_H} {d : Nat} (h : RS1 x m d) : f_Shelf_isByteRow x (31 + 2 * d) = decide (m.1 16 d = 50) := by
  obtain ⟨a, b, c, e, f, g⟩ := h
  simp only [f_Shelf_isByteRow_11, f_Shelf_isByteRow_7, f_Shelf_isByteRow]
  have zm : (-1 : Int32).toInt = -1 := rfl
  have z0 : (0 : Int32).toInt = 0 := rfl
  have z50 : (50 : Int32).toInt = 50 := rfl
  rcases e with ⟨e1, e2, e3, e4⟩ | ⟨e1, e2, e3, e4, e5, e6⟩ | ⟨e1, e2, e3, e4⟩
  · rw [e3, e1]; decide
  · have h1 : ¬ m.1 16 d = 50 := by rw [ti_eq]; omega
    rw [e5, if_neg (by decide)]; symm; rw [decide_eq_false_iff_not]; exact h1
  · have e5 := ti_sub (m.1 16 d) 50
    by_cases q : m.1 16 d = 50
    · rw [e4, q]; decide
    · have q2 : ¬ (m.1 16 d).toInt = (50 : Int32).toInt := fun z => q ((ti_eq _ _).mpr z)
      have : ¬ x.1 (31 + 2 * d) 2 = 0 := by rw [e4, ti_eq]; omega
      rw [if_neg this]; symm; rw [decide_eq_false_iff_not]; exact q
theorem p_hasPlaces {x m : am_H} {d : Nat} (h : RS1 x m d) (i n : Int32) : f_Shelf_hasPlaces x (31 + 2 * d) i n = decide (0 ≤ i.toInt ∧ 0 ≤ n.toInt ∧ i.toInt + n.toInt ≤ (m.1 17 d).toInt) := by
  obtain ⟨a, b, c, -⟩ := h
  have e1 := ti_sub (m.1 17 d) n
  have e2 := ti_hi i
  have e3 := ti_hi n
  simp only [f_Shelf_hasPlaces_30, f_Shelf_hasPlaces_26, f_Shelf_hasPlaces_16, f_Shelf_hasPlaces_8, f_Shelf_hasPlaces_4, f_Shelf_hasPlaces, a]
  have z0 : (0 : Int32).toInt = 0 := rfl
  by_cases h1 : i < 0
  · rw [if_pos h1]; rw [ti_lt] at h1; symm; rw [decide_eq_false_iff_not]; omega
  · rw [if_neg h1]; rw [ti_lt] at h1
    by_cases h2 : n < 0
    · rw [if_pos h2]; rw [ti_lt] at h2; symm; rw [decide_eq_false_iff_not]; omega
    · rw [if_neg h2]; rw [ti_lt] at h2
      by_cases h3 : m.1 17 d < n
      · rw [if_pos h3]; rw [ti_lt] at h3; symm; rw [decide_eq_false_iff_not]; omega
      · rw [if_neg h3]; rw [ti_lt] at h3
        by_cases h4 : m.1 17 d - n < i
        · rw [if_pos h4]; rw [ti_lt] at h4; symm; rw [decide_eq_false_iff_not]; omega
        · rw [if_neg h4]; rw [ti_lt] at h4; symm; rw [decide_eq_true_iff]; omega
theorem p_read {x m : am_H} {d : Nat} (hd : d < 6) (h : RS1 x m d) {i : Int32} (hi : 0 ≤ i.toInt ∧ i.toInt < (m.1 17 d).toInt) : f_Shelf_read x (31 + 2 * d) i = some (m.2 18 (60 * d + i.toNatClampNeg)) := by
  obtain ⟨a, b, c, e, f, g⟩ := h
  have z0 : (0 : Int32).toInt = 0 := rfl
  have z60 : (60 : Int32).toInt = 60 := rfl
  have h1 : ¬ i < 0 := by rw [ti_lt]; omega
  have h2 : ¬ m.1 17 d ≤ i := by rw [ti_le]; omega
  have h3 : ¬ 60 ≤ i := by rw [ti_le]; omega
  have h4 : i.toNatClampNeg < 60 := by rw [ti_nat]; omega
  simp only [f_Shelf_read_27, f_Shelf_read_18, f_Shelf_read_12, f_Shelf_read_4, f_Shelf_read, a, if_neg h1, if_neg h2, if_neg h3, ok_of (i := i) (n := 60) (by omega), if_true]
  rw [← f _ h4]
  have e9 : 31 + 2 * d + 1 = 32 + 2 * d := by omega
  rw [e9]
theorem E_row_fill : ∀ (k n : Nat) (i j : Int32) (x : am_H) (p : Nat) (v : Int64), k < n → (k : Int) = j.toInt - i.toInt → 0 ≤ i.toInt → j.toInt ≤ 155 → ∀ na : Nat, j.toInt ≤ na → ∃ x2, f_Arrays_fill_AJJ_6_l n x p na v i j = some x2 ∧ sx [p] x x2 ∧ x2.1 = x.1 ∧ ∀ q : Nat, x2.2 p q = if i.toInt ≤ q ∧ (q : Int) < j.toInt then v else x.2 p q := by
  intro k
  induction k with
  | zero =>
    intro n i j x p v hn hk hi hj na hna
    obtain ⟨n, rfl⟩ : ∃ j, n = j + 1 := ⟨n - 1, by omega⟩
    have e : j ≤ i := by rw [ti_le]; omega
    refine ⟨x, ?_, sx.rf _ _, rfl, fun q => ?_⟩
    · show f_Arrays_fill_AJJ_6 (f_Arrays_fill_AJJ_6_l n) x p na v i j = _
      simp only [f_Arrays_fill_AJJ_22, f_Arrays_fill_AJJ_12, f_Arrays_fill_AJJ_6, f_Arrays_fill_AJJ, if_pos e]
    · rw [if_neg (by omega)]
  | succ k ih =>
    intro n i j x p v hn hk hi hj na hna
    obtain ⟨n, rfl⟩ : ∃ j, n = j + 1 := ⟨n - 1, by omega⟩
    have e : ¬ j ≤ i := by rw [ti_le]; omega
    have e1 := ti_add i 1
    have z1 : (1 : Int32).toInt = 1 := rfl
    rw [z1] at e1
    obtain ⟨x2, a, b, b2, c⟩ := ih n (i + 1) j (am_pL x p i.toNatClampNeg v) p v (by omega) (by omega) (by omega) hj na hna
    refine ⟨x2, ?_, (sx.pL x p _ _ (by simp)).tr b, b2, fun q => ?_⟩
    · show f_Arrays_fill_AJJ_6 (f_Arrays_fill_AJJ_6_l n) x p na v i j = _
      simp only [f_Arrays_fill_AJJ_22, f_Arrays_fill_AJJ_12, f_Arrays_fill_AJJ_6, f_Arrays_fill_AJJ, if_neg e, ok_of (i := i) (n := na) (by omega), if_true]
      exact a
    · rw [c q, hL2]
      have hj2 := ti_mk hi
      by_cases h1 : (q : Int) = i.toInt
      · rw [if_neg (by omega), if_pos ⟨rfl, by omega⟩, if_pos (by omega)]
      · by_cases h2 : (i + 1).toInt ≤ q ∧ (q : Int) < j.toInt
        · rw [if_pos h2, if_pos (by omega)]
        · rw [if_neg h2, if_neg (by omega), if_neg (by omega)]
theorem p_fill (x : am_H) (p na : Nat) (v : Int64) (hna : na ≤ 155) : ∃ x2, f_Arrays_fill_AJJ x p na v = some x2 ∧ sx [p] x x2 ∧ x2.1 = x.1 ∧ ∀ q : Nat, x2.2 p q = if q < na then v else x.2 p q := by
  have e : (Int32.ofNat na).toInt = na := Int32.toInt_ofNat_of_lt (by omega)
  obtain ⟨x2, a, b, b2, c⟩ := E_row_fill na am_fu 0 (Int32.ofNat na) x p v (by unfold am_fu; omega) (by rw [e]; have : (0 : Int32).toInt = 0 := rfl; omega) (by decide) (by omega) na (by omega)
  refine ⟨x2, a, b, b2, fun q => ?_⟩
  rw [c q, e]
  have z0 : (0 : Int32).toInt = 0 := rfl
  by_cases h : q < na
  · rw [if_pos (by omega), if_pos h]
  · rw [if_neg (by omega), if_neg h]
