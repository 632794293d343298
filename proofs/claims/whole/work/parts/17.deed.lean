/-! what is led, the image; the words kept; the tape -/
/-- nothing of the model but the slots ss of its object and the rows ks was written -/
def sm (ss ks : List Nat) (m m2 : am_H) : Prop := (∀ i, i ∉ ss → m2.1 0 i = m.1 0 i) ∧ m2.2 0 = m.2 0 ∧ ∀ k, k ≠ 0 → k ∉ ks → m2.1 k = m.1 k ∧ m2.2 k = m.2 k
theorem sm.rf (ss ks : List Nat) (m : am_H) : sm ss ks m m := ⟨fun _ _ => rfl, rfl, fun _ _ _ => ⟨rfl, rfl⟩⟩
theorem sm.tr {ss ks : List Nat} {m m2 m3 : am_H} (a : sm ss ks m m2) (b : sm ss ks m2 m3) : sm ss ks m m3 :=
  ⟨fun i hi => (b.1 i hi).trans (a.1 i hi), b.2.1.trans a.2.1, fun k h0 hk => ⟨(b.2.2 k h0 hk).1.trans (a.2.2 k h0 hk).1, (b.2.2 k h0 hk).2.trans (a.2.2 k h0 hk).2⟩⟩
theorem sm.mono {ss ks ss2 ks2 : List Nat} {m m2 : am_H} (a : sm ss ks m m2) (h1 : ∀ i ∈ ss, i ∈ ss2) (h2 : ∀ i ∈ ks, i ∈ ks2) : sm ss2 ks2 m m2 :=
  ⟨fun i hi => a.1 i (fun q => hi (h1 i q)), a.2.1, fun k h0 hk => a.2.2 k h0 (fun q => hk (h2 k q))⟩
theorem sm.p0 {ss ks : List Nat} (m : am_H) (i : Nat) (v : Int32) (hi : i ∈ ss) : sm ss ks m (am_pI m 0 i v) := by
  refine ⟨fun j hj => ?_, rfl, fun k h0 _ => ⟨?_, rfl⟩⟩
  · have : j ≠ i := fun e => hj (e ▸ hi)
    simp [hI1, this]
  · funext b; simp [hI1, h0]
theorem sm.pI {ss ks : List Nat} (m : am_H) (k i : Nat) (v : Int32) (h0 : k ≠ 0) (hk : k ∈ ks) : sm ss ks m (am_pI m k i v) := by
  refine ⟨fun j _ => ?_, rfl, fun q _ hq => ⟨?_, rfl⟩⟩
  · simp [hI1, Ne.symm h0]
  · have : q ≠ k := fun e => hq (e ▸ hk)
    funext b; simp [hI1, this]
theorem sm.pL {ss ks : List Nat} (m : am_H) (k i : Nat) (v : Int64) (h0 : k ≠ 0) (hk : k ∈ ks) : sm ss ks m (am_pL m k i v) := by
  refine ⟨fun j _ => rfl, ?_, fun q _ hq => ⟨rfl, ?_⟩⟩
  · funext b; simp [hL2, Ne.symm h0]
  · have : q ≠ k := fun e => hq (e ▸ hk)
    funext b; simp [hL2, this]
/-! frames of the pictures -/
theorem VM.fr {m m2 : am_H} {ss ks : List Nat} (h : VM m) (s : sm ss ks m m2) (h1 : 6 ∉ ss) (h2 : 1 ∉ ks) : VM m2 := by
  have a := (s.2.2 1 (by decide) h2).1
  have b := s.1 6 h1
  refine ⟨fun i hi => ?_, ?_⟩
  · rw [a]; exact h.1 i hi
  · rw [b]; exact h.2
theorem RH.fx {x x2 m : am_H} {ks : List Nat} (h : RH x m) (s : sx ks x x2) (hk : 1 ∉ ks ∧ 2 ∉ ks ∧ 3 ∉ ks ∧ 4 ∉ ks ∧ 5 ∉ ks) : RH x2 m := by
  refine ⟨fun p hp => ?_, ?_⟩
  · have hq : (xp p).1 ∉ ks := by
      unfold xp
      split
      · exact hk.2.1
      · split
        · exact hk.2.2.1
        · split
          · exact hk.2.2.2.1
          · split
            · exact hk.2.2.2.2
            · exact hk.1
    rw [(s _ hq).1]; exact h.1 p hp
  · rw [(s 1 hk.1).1]; exact h.2
theorem RH.fm {x m m2 : am_H} {ss ks : List Nat} (h : RH x m) (s : sm ss ks m m2) (h1 : 6 ∉ ss) (h2 : 1 ∉ ks) : RH x m2 := by
  have a := (s.2.2 1 (by decide) h2).1
  have b := s.1 6 h1
  refine ⟨fun p hp => ?_, ?_⟩
  · rw [a]; exact h.1 p hp
  · rw [b]; exact h.2
/-! in deed -/
def RD (x m : am_H) : Prop := (∀ i, i < 5 → x.1 20 i = m.1 12 i) ∧ x.1 20 5 = m.1 0 22 ∧ (∀ i, i < 6 → x.1 21 i = m.1 13 i) ∧ x.1 19 4 = m.1 0 24 ∧ (m.1 0 24 = 0 ∨ m.1 0 24 = 1) ∧ cellB (m.1 0 22) = true ∧ cellB (m.1 13 5) = true
theorem RD.fx {x x2 m : am_H} {ks : List Nat} (h : RD x m) (s : sx ks x x2) (hk : 19 ∉ ks ∧ 20 ∉ ks ∧ 21 ∉ ks) : RD x2 m := by
  unfold RD at *
  rw [(s 19 hk.1).1, (s 20 hk.2.1).1, (s 21 hk.2.2).1]
  exact h
theorem RD.fm {x m m2 : am_H} {ss ks : List Nat} (h : RD x m) (s : sm ss ks m m2) (h1 : 22 ∉ ss ∧ 24 ∉ ss) (h2 : 12 ∉ ks ∧ 13 ∉ ks) : RD x m2 := by
  unfold RD at *
  rw [(s.2.2 12 (by decide) h2.1).1, (s.2.2 13 (by decide) h2.2).1, s.1 22 h1.1, s.1 24 h1.2]
  exact h
theorem E_led {x m : am_H} (h : RD x m) (w : Int32) : ∃ r, f_Club_led x w = some r ∧ f_Model_led m w = some r := by
  simp only [f_Club_led_9, f_Club_led_21, f_Club_led_13, f_Club_led_4, f_Club_led, f_Deed_tally_19, f_Deed_tally_10, f_Deed_tally_4, f_Deed_tally, f_Model_led_21, f_Model_led_12, f_Model_led_9, f_Model_led, v_Model_within32, Int64.reduceToInt]
  by_cases e : decide (0 ≤ w.toInt ∧ w.toInt ≤ 4) = true
  · have e2 := of_decide_eq_true e
    have a1 : ¬ w < 0 := by (simp only [ti_lt, ti_le, ti_eq, ti_add, ti_sub, ti_neg, ti_lt64, ti_le64, ti_eq64, ti_wide, Int32.reduceToInt, Int64.reduceToInt] at * <;> omega)
    have a2 : w ≤ 4 := by (simp only [ti_lt, ti_le, ti_eq, ti_add, ti_sub, ti_neg, ti_lt64, ti_le64, ti_eq64, ti_wide, Int32.reduceToInt, Int64.reduceToInt] at * <;> omega)
    have a3 : ¬ 6 ≤ w := by (simp only [ti_lt, ti_le, ti_eq, ti_add, ti_sub, ti_neg, ti_lt64, ti_le64, ti_eq64, ti_wide, Int32.reduceToInt, Int64.reduceToInt] at * <;> omega)
    have hn : w.toNatClampNeg < 5 := by rw [ti_nat]; omega
    refine ⟨m.1 12 w.toNatClampNeg, ?_, ?_⟩
    · simp only [a1, a2, a3, if_true, if_false, Bool.false_eq_true, ok_of (i := w) (n := 6) (by omega), Option.bind_some, h.1 _ hn]
    · simp only [e, if_true, ok_of (i := w) (n := 5) (by omega)]
  · have e3 : decide (0 ≤ w.toInt ∧ w.toInt ≤ 4) = false := by simpa using e
    rw [decide_eq_true_iff] at e
    refine ⟨-1, ?_, by simp only [e3] <;> rfl⟩
    by_cases a1 : w < 0
    · simp only [a1, if_true]
    · have a2 : ¬ w ≤ 4 := by (simp only [ti_lt, ti_le, ti_eq, ti_add, ti_sub, ti_neg, ti_lt64, ti_le64, ti_eq64, ti_wide, Int32.reduceToInt, Int64.reduceToInt] at * <;> omega)
      simp only [a1, a2, if_false, Bool.false_eq_true]
theorem l_Model_image : ∀ (k n : Nat) (i : Int32) (m : am_H), k < n → (k : Int) = 5 - i.toInt → 0 ≤ i.toInt → ∃ m2, f_Model_image_17_l n m i = some (m2.1 0 22, m2) ∧ sm [] [13] m m2 ∧ (∀ j : Nat, m2.1 13 j = if i.toInt ≤ j ∧ j < 5 then m.1 12 j else m.1 13 j) := by
  intro k
  induction k with
  | zero =>
    intro n i m hn hk hi
    obtain ⟨n, rfl⟩ : ∃ j, n = j + 1 := ⟨n - 1, by omega⟩
    have e : 5 ≤ i := by (simp only [ti_lt, ti_le, ti_eq, ti_add, ti_sub, ti_neg, ti_lt64, ti_le64, ti_eq64, ti_wide, Int32.reduceToInt, Int64.reduceToInt] at * <;> omega)
    refine ⟨m, ?_, sm.rf _ _ _, fun j => ?_⟩
    · show f_Model_image_17 (f_Model_image_17_l n) m i = _
      simp only [f_Model_image_40, f_Model_image_22, f_Model_image_17, f_Model_image, if_pos e]
    · rw [if_neg (by omega)]
  | succ k ih =>
    intro n i m hn hk hi
    obtain ⟨n, rfl⟩ : ∃ j, n = j + 1 := ⟨n - 1, by omega⟩
    have e : ¬ 5 ≤ i := by (simp only [ti_lt, ti_le, ti_eq, ti_add, ti_sub, ti_neg, ti_lt64, ti_le64, ti_eq64, ti_wide, Int32.reduceToInt, Int64.reduceToInt] at * <;> omega)
    have e1 := ti_add i 1
    have z1 : (1 : Int32).toInt = 1 := rfl
    rw [z1] at e1
    obtain ⟨m2, a, b, c⟩ := ih n (i + 1) (am_pI m 13 i.toNatClampNeg (m.1 12 i.toNatClampNeg)) (by omega) (by omega) (by omega)
    refine ⟨m2, ?_, (sm.pI m 13 _ _ (by decide) (by decide)).tr b, fun j => ?_⟩
    · show f_Model_image_17 (f_Model_image_17_l n) m i = _
      simp only [f_Model_image_40, f_Model_image_22, f_Model_image_17, f_Model_image, if_neg e, ok_of (i := i) (n := 5) (by omega), ok_of (i := i) (n := 6) (by omega), if_true]
      exact a
    · rw [c j, hI1, hI1]
      have hj := ti_mk hi
      by_cases q : (j : Int) = i.toInt
      · have q2 : j = i.toNatClampNeg := by omega
        rw [if_neg (by omega), if_pos ⟨rfl, q2⟩, if_pos (by omega), q2]
      · by_cases q3 : (i + 1).toInt ≤ j ∧ (j : Int) < 5
        · rw [if_pos (by omega), if_neg (by omega), if_pos (by omega)]
        · rw [if_neg (by omega), if_neg (by omega), if_neg (by omega)]
theorem l_Model_back : ∀ (k n : Nat) (i : Int32) (m : am_H), k < n → (k : Int) = 5 - i.toInt → 0 ≤ i.toInt → ∃ m2, f_Model_back_22_l n m i = some (m2.1 0 22, m2) ∧ sm [] [12] m m2 ∧ (∀ j : Nat, m2.1 12 j = if i.toInt ≤ j ∧ j < 5 then m.1 13 j else m.1 12 j) := by
  intro k
  induction k with
  | zero =>
    intro n i m hn hk hi
    obtain ⟨n, rfl⟩ : ∃ j, n = j + 1 := ⟨n - 1, by omega⟩
    have e : 5 ≤ i := by (simp only [ti_lt, ti_le, ti_eq, ti_add, ti_sub, ti_neg, ti_lt64, ti_le64, ti_eq64, ti_wide, Int32.reduceToInt, Int64.reduceToInt] at * <;> omega)
    refine ⟨m, ?_, sm.rf _ _ _, fun j => ?_⟩
    · show f_Model_back_22 (f_Model_back_22_l n) m i = _
      simp only [f_Model_back_45, f_Model_back_27, f_Model_back_22, f_Model_back_10, f_Model_back_7, f_Model_back, if_pos e]
    · rw [if_neg (by omega)]
  | succ k ih =>
    intro n i m hn hk hi
    obtain ⟨n, rfl⟩ : ∃ j, n = j + 1 := ⟨n - 1, by omega⟩
    have e : ¬ 5 ≤ i := by (simp only [ti_lt, ti_le, ti_eq, ti_add, ti_sub, ti_neg, ti_lt64, ti_le64, ti_eq64, ti_wide, Int32.reduceToInt, Int64.reduceToInt] at * <;> omega)
    have e1 := ti_add i 1
    have z1 : (1 : Int32).toInt = 1 := rfl
    rw [z1] at e1
    obtain ⟨m2, a, b, c⟩ := ih n (i + 1) (am_pI m 12 i.toNatClampNeg (m.1 13 i.toNatClampNeg)) (by omega) (by omega) (by omega)
    refine ⟨m2, ?_, (sm.pI m 12 _ _ (by decide) (by decide)).tr b, fun j => ?_⟩
    · show f_Model_back_22 (f_Model_back_22_l n) m i = _
      simp only [f_Model_back_45, f_Model_back_27, f_Model_back_22, f_Model_back_10, f_Model_back_7, f_Model_back, if_neg e, ok_of (i := i) (n := 5) (by omega), ok_of (i := i) (n := 6) (by omega), if_true]
      exact a
    · rw [c j, hI1, hI1]
      have hj := ti_mk hi
      by_cases q : (j : Int) = i.toInt
      · have q2 : j = i.toNatClampNeg := by omega
        rw [if_neg (by omega), if_pos ⟨rfl, q2⟩, if_pos (by omega), q2]
      · by_cases q3 : (i + 1).toInt ≤ j ∧ (j : Int) < 5
        · rw [if_pos (by omega), if_neg (by omega), if_pos (by omega)]
        · rw [if_neg (by omega), if_neg (by omega), if_neg (by omega)]
theorem E_image {x m : am_H} (h : RD x m) : ∃ r m2, f_Club_image x = (r, (f_Club_image x).2) ∧ f_Model_image m = some (r, m2) ∧ RD (f_Club_image x).2 m2 ∧ sx [19, 21] x (f_Club_image x).2 ∧ sm [24] [13] m m2 := by
  obtain ⟨m2, a, b, c⟩ := l_Model_image 5 am_fu 0 (am_pI (am_pI m 0 24 1) 13 5 (m.1 0 22)) (by unfold am_fu; omega) (by decide) (by decide)
  have b2 : sm [24] [13] m m2 := ((sm.p0 m 24 1 (by decide)).tr (sm.pI _ 13 5 _ (by decide) (by decide))).tr (b.mono (by simp) (by simp))
  have e22 := b2.1 22 (by decide)
  have e12 := (b2.2.2 12 (by decide) (by decide)).1
  have e24 : m2.1 0 24 = 1 := by rw [b.1 24 (by simp)]; simp [hI1]
  have s2 : sx [19, 21] x (am_pI (am_cI x 20 21 0 0 6) 19 4 1) := (sx.cI x 20 21 0 0 6 (by decide)).tr (sx.pI _ 19 4 1 (by decide))
  have hx : f_Club_image x = (x.1 20 5, am_pI (am_cI x 20 21 0 0 6) 19 4 1) := by
    simp only [f_Club_image_7, f_Club_image, f_Deed_keepImage_15, f_Deed_keepImage, nl_0, nl_1, nl_2, nl_3, nl_4, nl_5, nl_6, nl_39, nl_49, nl_50, nl_51, nl_52, nl_53, nl_93, nl_130, hI1, hcI1]
    simp
  refine ⟨x.1 20 5, m2, ?_, ?_, ?_, ?_, b2⟩
  · rw [hx]
  · simp only [f_Model_image_40, f_Model_image_22, f_Model_image_17, f_Model_image, nl_0, nl_1, nl_2, nl_3, nl_4, nl_5, nl_6, nl_39, nl_49, nl_50, nl_51, nl_52, nl_53, nl_93, nl_130]
    have : (am_pI m 0 24 1).1 0 22 = m.1 0 22 := by simp [hI1]
    rw [this, a, e22, h.2.1]
  · rw [hx]
    obtain ⟨h1, h2, h3, h4, h5, h6, h7⟩ := h
    refine ⟨fun i hi => ?_, ?_, fun i hi => ?_, ?_, Or.inr e24, ?_, ?_⟩
    · rw [(s2 20 (by decide)).1, e12]; exact h1 i hi
    · rw [(s2 20 (by decide)).1, e22]; exact h2
    · rw [c i]
      have : (am_pI (am_cI x 20 21 0 0 6) 19 4 1).1 21 i = x.1 20 i := by simp [hI1, hcI1]; omega
      rw [this]
      have z0 : (0 : Int32).toInt = 0 := rfl
      by_cases q : i < 5
      · rw [if_pos (by omega), h1 i q]; simp [hI1]
      · have : i = 5 := by omega
        subst this
        rw [if_neg (by omega), h2]; simp [hI1]
    · rw [e24]; simp [hI1]
    · rw [e22]; exact h6
    · rw [c 5, if_neg (by omega)]; simp only [hI1]; simp; exact h6
  · rw [hx]; exact s2
theorem E_back {x m : am_H} (h : RD x m) : ∃ r x2 m2, f_Club_back x = some (r, x2) ∧ f_Model_back m = some (r, m2) ∧ RD x2 m2 ∧ sx [20] x x2 ∧ sm [22] [12] m m2 := by
  obtain ⟨h1, h2, h3, h4, h5, h6, h7⟩ := id h
  by_cases e : m.1 0 24 = 0
  · refine ⟨-5, x, m, ?_, ?_, h, sx.rf _ _, sm.rf _ _ _⟩
    · simp only [f_Club_back_20, f_Club_back_17, f_Club_back_10, f_Club_back_7, f_Club_back, f_Deed_hasImage, h4, e] <;> rfl
    · simp only [f_Model_back_45, f_Model_back_27, f_Model_back_22, f_Model_back_10, f_Model_back_7, f_Model_back, e, if_true]
  · have e1 : m.1 0 24 = 1 := h5.resolve_left e
    obtain ⟨m2, a, b, c⟩ := l_Model_back 5 am_fu 0 (am_pI m 0 22 (m.1 13 5)) (by unfold am_fu; omega) (by decide) (by decide)
    have b2 : sm [22] [12] m m2 := (sm.p0 m 22 _ (by decide)).tr (b.mono (by simp) (by simp))
    have e22 : m2.1 0 22 = m.1 13 5 := by rw [b.1 22 (by simp)]; simp [hI1]
    have e24 := b2.1 24 (by decide)
    have e13 := (b2.2.2 13 (by decide) (by decide)).1
    have s2 : sx [20] x (am_cI x 21 20 0 0 6) := sx.cI x 21 20 0 0 6 (by decide)
    refine ⟨m.1 13 5, am_cI x 21 20 0 0 6, m2, ?_, ?_, ?_, s2, b2⟩
    · simp only [f_Club_back_20, f_Club_back_17, f_Club_back_10, f_Club_back_7, f_Club_back, f_Deed_hasImage, f_Deed_layImageBack_15, f_Deed_layImageBack, h4, e1, nl_0, nl_1, nl_2, nl_3, nl_4, nl_5, nl_6, nl_39, nl_49, nl_50, nl_51, nl_52, nl_53, nl_93, nl_130, hcI1]
      have := h3 5 (by decide)
      simp [this]
    · simp only [f_Model_back_45, f_Model_back_27, f_Model_back_22, f_Model_back_10, f_Model_back_7, f_Model_back, if_neg e, nl_0, nl_1, nl_2, nl_3, nl_4, nl_5, nl_6, nl_39, nl_49, nl_50, nl_51, nl_52, nl_53, nl_93, nl_130]
      rw [a, e22]
    · refine ⟨fun i hi => ?_, ?_, fun i hi => ?_, ?_, ?_, ?_, ?_⟩
      · rw [c i]
        have z0 : (0 : Int32).toInt = 0 := rfl
        rw [if_pos (by omega)]
        simp only [hcI1, hI1]
        simp [h3 i (by omega)]; omega
      · rw [e22]; simp [hcI1, h3 5 (by decide)]
      · rw [(s2 21 (by decide)).1, e13]; exact h3 i hi
      · rw [(s2 19 (by decide)).1, e24]; exact h4
      · rw [e24]; exact h5
      · rw [e22]; exact h7
      · rw [e13]; exact h7
