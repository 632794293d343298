/-! keep, row, put, element -/
theorem ix_at {d i : Int32} (hd : shelfB d = true) (hi : 0 ≤ i.toInt ∧ i.toInt < 60) : am_ok (60 * d + i) 360 = true ∧ (60 * d + i).toNatClampNeg = 60 * d.toNatClampNeg + i.toNatClampNeg := by
  have h1 := of_decide_eq_true hd
  have e1 := ti_mul 60 d
  have e2 := ti_add (60 * d) i
  have z : (60 : Int32).toInt = 60 := rfl
  rw [z] at e1
  have e3 : (60 * d).toInt = 60 * d.toInt := by omega
  have e4 : (60 * d + i).toInt = 60 * d.toInt + i.toInt := by omega
  refine ⟨ok_of (by omega), ?_⟩
  rw [ti_nat, ti_nat, ti_nat]; omega
theorem E_element {x m : am_H} (h : RS x m) (d i : Int32) : ∃ r, f_Club_element x d i = some r ∧ f_Model_element m d i = some r := by
  simp only [f_Club_element_25, f_Club_element_15, f_Club_element_9, f_Club_element_6, f_Club_element, f_Club_refuseElement_49, f_Club_refuseElement_45, f_Club_refuseElement_42, f_Club_refuseElement_36, f_Club_refuseElement_33, f_Club_refuseElement_30, f_Club_refuseElement_26, f_Club_refuseElement_23, f_Club_refuseElement_20, f_Club_refuseElement_9, f_Club_refuseElement_7, f_Club_refuseElement_4, f_Club_refuseElement, f_Model_element_15, f_Model_element_9, f_Model_element_6, f_Model_element, f_Model_refusal_53, f_Model_refusal_49, f_Model_refusal_39, f_Model_refusal_35, f_Model_refusal_32, f_Model_refusal_21, f_Model_refusal_18, f_Model_refusal_9, f_Model_refusal_7, f_Model_refusal_4, f_Model_refusal, v_Club_isShelf, v_Model_isShelf]
  cases e : shelfB d with
  | false => exact ⟨_, rfl, rfl⟩
  | true =>
    obtain ⟨k1, k2, k3, k4⟩ := shelf_at e
    have hs := h _ k1
    have z0 : (0 : Int32).toInt = 0 := rfl
    have z1 : (1 : Int32).toInt = 1 := rfl
    have z50 : (50 : Int32).toInt = 50 := rfl
    simp only [k2, k3, if_true, p_isEmpty hs, p_isRow hs, p_hasPlaces hs]
    by_cases a1 : (m.1 16 d.toNatClampNeg).toInt < 0
    · have a2 : ¬ 0 ≤ m.1 16 d.toNatClampNeg := by rw [ti_le]; omega
      exact ⟨-9223372036854775808, by simp [a1], by simp [a2]⟩
    · have a2 : 0 ≤ m.1 16 d.toNatClampNeg := by rw [ti_le]; omega
      by_cases a3 : 50 ≤ (m.1 16 d.toNatClampNeg).toInt
      · have a4 : 50 ≤ m.1 16 d.toNatClampNeg := by rw [ti_le]; omega
        by_cases a5 : 0 ≤ i.toInt ∧ i.toInt + 1 ≤ (m.1 17 d.toNatClampNeg).toInt
        · have a6 : ¬ i < 0 := by rw [ti_lt]; omega
          have a7 : ¬ m.1 17 d.toNatClampNeg ≤ i := by rw [ti_le]; omega
          have a8 := hs.2.2.1
          obtain ⟨b1, b2⟩ := ix_at e (i := i) (by omega)
          have a9 : (0 ≤ i.toInt ∧ 0 ≤ (1 : Int32).toInt ∧ i.toInt + (1 : Int32).toInt ≤ (m.1 17 d.toNatClampNeg).toInt) := by omega
          refine ⟨m.2 18 (60 * d.toNatClampNeg + i.toNatClampNeg), ?_, ?_⟩
          · simp only [a1, a3, a9, and_self, decide_true, decide_false, if_true, if_false, Bool.false_eq_true, Option.bind_some, p_read k1 hs (i := i) (by omega)]
          · simp only [a2, a4, a6, a7, b1, b2, if_true, if_false, Bool.false_eq_true, Option.bind_some]
        · have a9 : ¬ (0 ≤ i.toInt ∧ 0 ≤ (1 : Int32).toInt ∧ i.toInt + (1 : Int32).toInt ≤ (m.1 17 d.toNatClampNeg).toInt) := by omega
          have zz : ¬ (-13 : Int32) = 0 := by decide
          refine ⟨-9223372036854775808, ?_, ?_⟩
          · simp only [a1, a3, a9, and_self, decide_true, decide_false, if_true, if_false, Bool.false_eq_true, Option.bind_some, zz]
            try rfl
          · by_cases a6 : i < 0
            · simp only [a2, a4, a6, if_true, Option.bind_some, zz, if_false, Bool.false_eq_true]
            · have a7 : m.1 17 d.toNatClampNeg ≤ i := by rw [ti_le]; rw [ti_lt] at a6; omega
              simp only [a2, a4, a6, a7, if_true, if_false, Bool.false_eq_true, Option.bind_some, zz]
      · have a4 : ¬ 50 ≤ m.1 16 d.toNatClampNeg := by rw [ti_le]; omega
        exact ⟨-9223372036854775808, by simp [a1, a3], by simp [a2, a4]⟩
/-- x2 differs from x at shelf d alone, m2 from m likewise -/
theorem RS.upd {x m x2 m2 : am_H} (h : RS x m) {d : Nat} (hd : d < 6) (s : sx [31 + 2 * d, 32 + 2 * d] x x2)
    (h3 : ∀ e, e < 6 → e ≠ d → m2.1 16 e = m.1 16 e ∧ m2.1 17 e = m.1 17 e ∧ ∀ i, i < 60 → m2.2 18 (60 * e + i) = m.2 18 (60 * e + i)) (h6 : m2.1 0 26 = m.1 0 26) (hn : RS1 x2 m2 d) : RS x2 m2 := by
  intro e he
  by_cases q : e = d
  · rw [q]; exact hn
  · obtain ⟨a, b, c⟩ := h3 e he q
    refine (h e he).of ?_ (fun i _ => ?_) a b c (by rw [h6]; exact Int.le_refl _)
    · exact (s (31 + 2 * e) (by simp; omega)).1
    · rw [(s (32 + 2 * e) (by simp; omega)).2]
theorem E_keep {x m : am_H} (h : RS x m) (hW : RW x m) (d w : Int32) : ∃ r x2 m2, f_Club_keep x d w = some (r, x2) ∧ f_Model_keep m d w = some (r, m2) ∧ RS x2 m2 ∧ sx [31, 32, 33, 34, 35, 36, 37, 38, 39, 40, 41, 42] x x2 ∧ sm [] [16, 17] m m2 := by
  simp only [f_Club_keep_23, f_Club_keep_52, f_Club_keep_42, f_Club_keep_39, f_Club_keep_30, f_Club_keep_25, f_Club_keep_20, f_Club_keep_12, f_Club_keep_7, f_Club_keep_4, f_Club_keep, f_Model_keep_20, f_Model_keep_22, f_Model_keep_17, f_Model_keep_12, f_Model_keep_7, f_Model_keep_4, f_Model_keep, f_Shelf_holdWord_4, f_Shelf_holdWord, f_Shelf_holdNothing, v_Club_isShelf, v_Model_isShelf, v_Words_hasWord hW, v_Model_isBody hW]
  cases e : shelfB d with
  | false => exact ⟨_, x, m, rfl, rfl, h, sx.rf _ _, sm.rf _ _ _⟩
  | true =>
    obtain ⟨k1, k2, k3, k4⟩ := shelf_at e
    have hs := h _ k1
    have hmem : ∀ q, q = 31 + 2 * d.toNatClampNeg ∨ q = 32 + 2 * d.toNatClampNeg → q ∈ [31, 32, 33, 34, 35, 36, 37, 38, 39, 40, 41, 42] := by
      intro q hq
      have : q < 43 ∧ 31 ≤ q := by omega
      simp; omega
    have b26 : (am_pI (am_pI m 16 d.toNatClampNeg w) 17 d.toNatClampNeg 0).1 0 26 = m.1 0 26 := by simp [hI1]
    have c3 : ∀ e, e < 6 → e ≠ d.toNatClampNeg → (am_pI (am_pI m 16 d.toNatClampNeg w) 17 d.toNatClampNeg 0).1 16 e = m.1 16 e ∧ (am_pI (am_pI m 16 d.toNatClampNeg w) 17 d.toNatClampNeg 0).1 17 e = m.1 17 e ∧ ∀ i, i < 60 → (am_pI (am_pI m 16 d.toNatClampNeg w) 17 d.toNatClampNeg 0).2 18 (60 * e + i) = m.2 18 (60 * e + i) := by
      intro e _ he
      refine ⟨by simp [hI1, he], by simp [hI1, he], fun i _ => rfl⟩
    have smm : sm [] [16, 17] m (am_pI (am_pI m 16 d.toNatClampNeg w) 17 d.toNatClampNeg 0) := (sm.pI _ _ _ _ (by decide) (by decide)).tr (sm.pI _ _ _ _ (by decide) (by decide))
    by_cases f : w = -1
    · refine ⟨1, am_pI (am_pI (am_pI x (31 + 2 * d.toNatClampNeg) 1 (-1)) (31 + 2 * d.toNatClampNeg) 2 (-1)) (31 + 2 * d.toNatClampNeg) 3 0, am_pI (am_pI m 16 d.toNatClampNeg w) 17 d.toNatClampNeg 0, by simp only [f, k2, k3, if_true], by simp only [f, k2, if_true], ?_, ?_, smm⟩
      · refine h.upd k1 (((sx.pI _ _ _ _ (by simp)).tr (sx.pI _ _ _ _ (by simp))).tr (sx.pI _ _ _ _ (by simp))) c3 b26 ?_
        refine ⟨by simp [hI1], by simp [hI1], by simp [hI1], Or.inl ?_, fun i hi => ?_, fun q => ?_⟩
        · refine ⟨by simp [hI1, f], by simp [hI1], by simp [hI1], by simp [hI1]⟩
        · exact hs.2.2.2.2.1 i hi
        · simp [hI1, f] at q
      · exact ((sx.pI _ _ _ _ (hmem _ (Or.inl rfl))).tr (sx.pI _ _ _ _ (hmem _ (Or.inl rfl)))).tr (sx.pI _ _ _ _ (hmem _ (Or.inl rfl)))
    · by_cases g : wordB m w = true
      · have g2 := of_decide_eq_true g
        refine ⟨1, am_pI (am_pI (am_pI (am_pI x (31 + 2 * d.toNatClampNeg) 1 (-1)) (31 + 2 * d.toNatClampNeg) 2 (-1)) (31 + 2 * d.toNatClampNeg) 3 0) (31 + 2 * d.toNatClampNeg) 1 w, am_pI (am_pI m 16 d.toNatClampNeg w) 17 d.toNatClampNeg 0, by simp only [f, g, k2, k3, if_true, if_false, Bool.false_eq_true], by simp only [f, g, k2, if_true, if_false, Bool.false_eq_true], ?_, ?_, smm⟩
        · refine h.upd k1 ((((sx.pI _ _ _ _ (by simp)).tr (sx.pI _ _ _ _ (by simp))).tr (sx.pI _ _ _ _ (by simp))).tr (sx.pI _ _ _ _ (by simp))) c3 b26 ?_
          have b50 := hW.2.2.1
          refine ⟨by simp [hI1], by simp [hI1], by simp [hI1], Or.inr (Or.inl ?_), fun i hi => ?_, fun q => ?_⟩
          · refine ⟨by simp [hI1]; omega, by simp [hI1]; omega, by simp [hI1]; omega, by simp [hI1], by simp [hI1], by simp [hI1]⟩
          · exact hs.2.2.2.2.1 i hi
          · simp [hI1] at q
            rw [q] at g2
            have : (50 : Int32).toInt = 50 := rfl
            omega
        · exact (((sx.pI _ _ _ _ (hmem _ (Or.inl rfl))).tr (sx.pI _ _ _ _ (hmem _ (Or.inl rfl)))).tr (sx.pI _ _ _ _ (hmem _ (Or.inl rfl)))).tr (sx.pI _ _ _ _ (hmem _ (Or.inl rfl)))
      · have g' : wordB m w = false := by simpa using g
        exact ⟨-1, x, m, by simp only [f, g', if_false, Bool.false_eq_true, if_true] <;> rfl, by simp only [f, g', if_true, if_false, Bool.false_eq_true] <;> rfl, h, sx.rf _ _, sm.rf _ _ _⟩
