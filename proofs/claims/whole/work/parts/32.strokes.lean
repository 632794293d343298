/-! STROKES; to forget what was worked out -/
theorem bestF_c {m m2 : am_H} (e : m2.1 1 = m.1 1) (e6 : m2.1 0 6 = m.1 0 6) : bestF m2 = bestF m := by
  funext row n c; unfold bestF; rw [byC_c e, e6]
theorem fB_c {m m2 : am_H} (e : m2.1 1 = m.1 1) (e6 : m2.1 0 6 = m.1 0 6) : fB m2 = fB m := by
  funext row n c; unfold fB; rw [bestF_c e e6]
theorem fL_c {m m2 : am_H} (e : m2.1 1 = m.1 1) : fL m2 = fL m := by
  funext tk row n c; unfold fL; rw [byC_c e]
theorem rowG_c {m m2 : am_H} (e : m2.1 1 = m.1 1) (e6 : m2.1 0 6 = m.1 0 6) : rowG m2 = rowG m := by
  funext f n
  induction n with
  | zero => funext c; simp only [rowG]; rw [grB_c e]; unfold ptS unS; rw [e]
  | succ n ih => funext c; simp only [rowG]; rw [grB_c e, e6, ih]; unfold ptS unS; rw [e]
theorem rJ_c {m m2 : am_H} (e : m2.1 1 = m.1 1) (e6 : m2.1 0 6 = m.1 0 6) : rJ m2 = rJ m := by
  funext f j; unfold rJ; rw [rowG_c e e6]
theorem KB.fm {x m m2 : am_H} {ss ks : List Nat} (h : KB x m) (s : sm ss ks m m2) (h1 : 6 ∉ ss) (h2 : 1 ∉ ks) : KB x m2 := by
  have e := (s.2.2 1 (by decide) h2).1
  have e6 := s.1 6 h1
  unfold KB
  rw [rJ_c e e6, fB_c e e6, grB_c e, bestF_c e e6, rowG_c e e6, e6]
  exact h
theorem clJ_at {m : am_H} {g : Nat → Int32 → Int32} {N : Nat} {c : Int32} (hc : cellB c = true) : clJ m g (31 * N + c.toNatClampNeg) = if grB m c = true ∨ N = 0 ∨ m.1 0 6 = 0 then -2 else g N c := by
  obtain ⟨e1, e2⟩ := cellJ_at (N := N) hc
  unfold clJ; rw [e1, e2]
theorem v_bestClub (x : am_H) {cell n : Int32} (hc : cellB cell = true) (hn : 0 ≤ n.toInt ∧ n.toInt ≤ 4) : f_Reck_bestClub x cell n = some (x.1 15 (31 * n.toNatClampNeg + cell.toNatClampNeg)) := by
  have c1 := cellB_iff.mp hc
  obtain ⟨a1, -, a3, -⟩ := at_row0 hn hc
  have z0 : (0 : Int32).toInt = 0 := rfl
  have z155 : (155 : Int32).toInt = 155 := rfl
  have b1 : ¬ n * 31 + cell < 0 := by rw [ti_lt]; omega
  have b2 : ¬ 155 ≤ n * 31 + cell := by rw [ti_le]; omega
  simp only [f_Reck_bestClub_29, f_Reck_bestClub_20, f_Reck_bestClub_11, f_Reck_bestClub, if_neg b1, if_neg b2, ok_of (i := n * 31 + cell) (n := 155) (by omega), if_true, a3]
theorem row_part {m : am_H} (hV : VM m) {f : (Int32 → Int64) → Nat → Int32 → Int64} (hf : okF m f) {c : Int32} (hc : cellB c = true) {N : Nat} (hN : N ≤ 4) {part : Int32} (hp : part = 0 ∨ part = 1) : ∃ r, f_Club_partOf (rowG m f N c) (Un N) part = some r ∧ f_Model_partOf (rowG m f N c) (Un N) part = some r := by
  have h1 := rowG_b hV hf N hN c hc
  have h2 := uT_b hN
  have h3 := Un_t hN
  exact p_partOf (by omega) (by omega) hp
theorem E_strokes {x m : am_H} (hR : RH x m) (hV : VM m) (hK : KB x m) (cell n part : Int32) : ∃ r x2 m2, f_Club_strokes x cell n part = some (r, x2) ∧ f_Model_strokes m cell n part = some (r, m2) ∧ KB x2 m2 ∧ sx [12, 13, 15] x x2 ∧ (∀ i, i ≠ 6 → x2.1 12 i = x.1 12 i) ∧ x2.2 12 = x.2 12 ∧ sm [11, 12, 13, 14, 15] [7, 8, 9, 10] m m2 := by
  have no : ∀ r : Int64, f_Club_strokes x cell n part = some (r, x) → f_Model_strokes m cell n part = some (r, m) → ∃ r x2 m2, f_Club_strokes x cell n part = some (r, x2) ∧ f_Model_strokes m cell n part = some (r, m2) ∧ KB x2 m2 ∧ sx [12, 13, 15] x x2 ∧ (∀ i, i ≠ 6 → x2.1 12 i = x.1 12 i) ∧ x2.2 12 = x.2 12 ∧ sm [11, 12, 13, 14, 15] [7, 8, 9, 10] m m2 :=
    fun r a b => ⟨r, x, m, a, b, hK, sx.rf _ _, fun _ _ => rfl, rfl, sm.rf _ _ _⟩
  have z0 : (0 : Int32).toInt = 0 := rfl
  have z2 : (2 : Int32).toInt = 2 := rfl
  have z4 : (4 : Int32).toInt = 4 := rfl
  simp only [f_Club_strokes, f_Club_strokes_4, f_Club_strokes_7, f_Club_strokes_11, f_Club_strokes_16, f_Club_strokes_20, f_Club_strokes_25, f_Club_strokes_29, f_Model_strokes, f_Model_strokes_5, f_Model_strokes_8, f_Model_strokes_17, f_Model_strokes_20, f_Model_strokes_29, f_Model_strokes_32, f_Model_strokes_36, v_Hole_isCell, v_Model_isCell32, v_Model_within32, Int64.reduceToInt] at no ⊢
  by_cases hcf : cellB cell = false
  · exact no (-9223372036854775808) (by rw [hcf] <;> rfl) (by rw [hcf] <;> rfl)
  have hc : cellB cell = true := by simpa using hcf
  by_cases hn : decide (0 ≤ n.toInt ∧ n.toInt ≤ 4) = true
  · have hn2 := of_decide_eq_true hn
    have b1 : ¬ n < 0 := by rw [ti_lt]; omega
    have b2 : ¬ 4 < n := by rw [ti_lt]; omega
    by_cases hp : decide (0 ≤ part.toInt ∧ part.toInt ≤ 2) = true
    · have hp2 := of_decide_eq_true hp
      have b3 : ¬ part < 0 := by rw [ti_lt]; omega
      have b4 : part ≤ 2 := by rw [ti_le]; omega
      obtain ⟨x2, r1, r2, r3, r4, r5, r6⟩ := v_Reck_mean0 hR hV hK hc hn2
      obtain ⟨m2, q1, q2, q3, q4⟩ := v_Model_fills0 hV
      have hN : n.toNatClampNeg ≤ 4 := by rw [ti_nat]; omega
      have hcn := cellB_nat hc
      obtain ⟨-, a2, -, a4⟩ := at_row0 hn2 hc
      have c1 := cellB_iff.mp hc
      have ok : am_ok (31 * n + cell) 155 = true := ok_of (by omega)
      have ok5 : am_ok n 5 = true := ok_of (by omega)
      obtain ⟨w8, w9⟩ := q4 (31 * n.toNatClampNeg + cell.toNatClampNeg) (by omega)
      rw [rJ_at m (fB m) hc] at w8
      rw [clJ_at hc] at w9
      have w10 := q3 n.toNatClampNeg (by omega)
      have hK2 := r2.fm q2 (by simp) (by simp)
      simp only [hc, hn, hp, b1, b2, b3, b4, if_true, if_false, r1, q1, Option.bind_some, f_Club_strokes_39, f_Model_strokes_41]
      by_cases p2 : part = 2
      · have b5 : 2 ≤ part := by rw [p2]; decide
        have hR2 : RH x2 m := hR.fx r3 (by decide)
        have hres : ∃ r : Int32, f_Club_strokes_57 x2 cell n = some (r.toInt64, x2) ∧ m2.1 9 (31 * n.toNatClampNeg + cell.toNatClampNeg) = r := by
          rw [w9]
          simp only [f_Club_strokes_57, f_Club_strokes_61, f_Club_strokes_69, f_Club_strokes_72, f_Club_strokes_79, f_Club_strokes_82, f_Club_strokes_88, f_Club_strokes_97, v_Hole_isGreen hR2, hc, Bool.true_and, Option.bind_some, f_Hole_hasNoClubs_11, f_Hole_hasNoClubs_7, f_Hole_hasNoClubs, hR2.2, v_bestClub x2 hc hn2]
          have hn0 := n_zero hn2.1
          by_cases e0 : n = 0
          · exact ⟨-2, by rw [if_pos e0]; rfl, by rw [if_pos (Or.inr (Or.inl (hn0.mp e0)))]⟩
          · rw [if_neg e0]
            have eN : ¬ n.toNatClampNeg = 0 := fun z => e0 (hn0.mpr z)
            cases hg : grB m cell with
            | true => exact ⟨-2, rfl, by simp⟩
            | false =>
              by_cases ec : m.1 0 6 = 0
              · exact ⟨-2, by simp only [ec, if_true, if_false, Bool.false_eq_true]; rfl, by simp [ec]⟩
              · refine ⟨gB m n.toNatClampNeg cell, ?_, by simp [eN, ec]⟩
                have e9 := r2.2.2 (31 * n.toNatClampNeg + cell.toNatClampNeg) (by omega) (by
                  rw [r6]
                  have := rJ_pos hV (okF_B hV) (31 * n.toNatClampNeg + cell.toNatClampNeg) (by omega)
                  rw [rJ_at m (fB m) hc] at this
                  exact this) (by
                  obtain ⟨g1, g2⟩ := cellJ_at (N := n.toNatClampNeg) hc
                  rw [g1, g2, hg]; simp [eN, ec])
                obtain ⟨g1, g2⟩ := cellJ_at (N := n.toNatClampNeg) hc
                rw [g1, g2] at e9
                simp only [ec, if_false, Bool.false_eq_true, e9, Option.bind_some]
                rfl
        obtain ⟨r, s1, s2⟩ := hres
        refine ⟨r.toInt64, x2, m2, ?_, ?_, hK2, r3, r4, r5, q2⟩
        · rw [if_pos b5]; exact s1
        · rw [if_pos p2]; simp only [f_Model_strokes_46, ok, if_true, a4, s2]
      · have b5 : ¬ 2 ≤ part := by
          rw [ti_le]
          have : ¬ part.toInt = (2 : Int32).toInt := fun z => p2 ((ti_eq _ _).mpr z)
          omega
        have hpp : part = 0 ∨ part = 1 := by
          rw [ti_le] at b5
          rw [ti_eq, ti_eq]
          have z1 : (1 : Int32).toInt = 1 := rfl
          omega
        obtain ⟨r, s1, s2⟩ := row_part hV (okF_B hV) hc hN hpp
        refine ⟨r, x2, m2, ?_, ?_, hK2, r3, r4, r5, q2⟩
        · rw [if_neg b5]
          simp only [f_Club_strokes_46, f_Club_strokes_52, f_Club_strokes_56, v_Reck_unit hn2, Option.bind_some, s1]
        · rw [if_neg p2]
          simp only [f_Model_strokes_61, f_Model_strokes_82, ok, ok5, if_true, a4, w8, w10, s2, Option.bind_some]
    · have hp' : decide (0 ≤ part.toInt ∧ part.toInt ≤ 2) = false := by simpa using hp
      rw [decide_eq_true_iff] at hp
      refine no (-9223372036854775808) ?_ (by simp only [hc, hn, hp', if_true, if_false, Bool.false_eq_true])
      by_cases b3 : part < 0
      · simp only [hc, b1, b2, b3, if_true, if_false]
      · have b4 : ¬ part ≤ 2 := by rw [ti_le]; rw [ti_lt] at b3; omega
        simp only [hc, b1, b2, b3, b4, if_true, if_false]
  · have hn' : decide (0 ≤ n.toInt ∧ n.toInt ≤ 4) = false := by simpa using hn
    rw [decide_eq_true_iff] at hn
    refine no (-9223372036854775808) ?_ (by simp only [hc, hn', if_true, if_false, Bool.false_eq_true])
    by_cases b1 : n < 0
    · simp only [hc, b1, if_true, if_false]
    · have b2 : 4 < n := by rw [ti_lt]; rw [ti_lt] at b1; omega
      simp only [hc, b1, b2, if_true, if_false]
/-- nothing worked out is kept -/
def KZ (x : am_H) : Prop := (∀ j, j < 155 → x.2 13 j = 0) ∧ (∀ j, j < 155 → x.2 14 j = 0) ∧ x.1 12 8 = 0 ∧ x.1 12 9 = 0 ∧ x.1 12 10 = 0
/-- the flags say when the tables are empty -/
def KF (x : am_H) : Prop := (x.1 12 6 = 0 → ∀ j, j < 155 → x.2 13 j = 0) ∧ (x.1 12 7 = 0 → ∀ j, j < 155 → x.2 14 j = 0)
theorem v_forgetBest {x : am_H} (h : x.1 12 6 = 0 → ∀ j, j < 155 → x.2 13 j = 0) : ∃ x2, f_Reck_forgetBest x = some x2 ∧ (∀ j, j < 155 → x2.2 13 j = 0) ∧ x2.1 12 6 = 0 ∧ sx [12, 13] x x2 ∧ (∀ i, i ≠ 6 → x2.1 12 i = x.1 12 i) ∧ x2.2 12 = x.2 12 := by
  simp only [f_Reck_forgetBest_20, f_Reck_forgetBest_15, f_Reck_forgetBest_7, f_Reck_forgetBest]
  by_cases e : x.1 12 6 = 0
  · exact ⟨x, by rw [if_pos e], h e, e, sx.rf _ _, fun _ _ => rfl, rfl⟩
  · obtain ⟨x1, a1, a2, a3, a4⟩ := p_fill x 13 155 0 (by decide)
    refine ⟨am_pI x1 12 6 0, by rw [if_neg e, a1]; rfl, fun j hj => ?_, by simp [hI1], (a2.mono (by simp)).tr (sx.pI _ _ _ _ (by simp)), fun i hi => ?_, ?_⟩
    · rw [hI2, a4, if_pos hj]
    · rw [hI1, if_neg (fun q => hi q.2), a3]
    · rw [hI2, (a2 12 (by simp)).2]
theorem v_forgetLawful {x : am_H} (h : x.1 12 7 = 0 → ∀ j, j < 155 → x.2 14 j = 0) : ∃ x2, f_Reck_forgetLawful x = some x2 ∧ (∀ j, j < 155 → x2.2 14 j = 0) ∧ x2.1 12 7 = 0 ∧ x2.1 12 8 = 0 ∧ sx [12, 14] x x2 ∧ (∀ i, i ≠ 7 → i ≠ 8 → x2.1 12 i = x.1 12 i) ∧ x2.2 12 = x.2 12 := by
  have e7 : (am_pI x 12 8 0).1 12 7 = x.1 12 7 := by simp [hI1]
  simp only [f_Reck_forgetLawful_25, f_Reck_forgetLawful_20, f_Reck_forgetLawful_12, f_Reck_forgetLawful, e7]
  by_cases e : x.1 12 7 = 0
  · exact ⟨am_pI x 12 8 0, by rw [if_pos e], h e, by rw [e7]; exact e, by simp [hI1], sx.pI _ _ _ _ (by simp), fun i h1 h2 => by simp [hI1, h2], rfl⟩
  · obtain ⟨x1, a1, a2, a3, a4⟩ := p_fill (am_pI x 12 8 0) 14 155 0 (by decide)
    refine ⟨am_pI x1 12 7 0, by rw [if_neg e, a1]; rfl, fun j hj => ?_, by simp [hI1], by simp [hI1, a3], ((sx.pI x 12 8 0 (by simp)).tr (a2.mono (by simp))).tr (sx.pI _ _ _ _ (by simp)), fun i h1 h2 => ?_, ?_⟩
    · rw [hI2, a4, if_pos hj]
    · rw [hI1, if_neg (fun q => h1 q.2), a3, hI1, if_neg (fun q => h2 q.2)]
    · rw [hI2, (a2 12 (by simp)).2]; rfl
theorem v_forget {x : am_H} (h : KF x) : ∃ x2, f_Reck_forget x = some x2 ∧ KZ x2 ∧ KF x2 ∧ sx [12, 13, 14] x x2 ∧ x2.1 12 11 = x.1 12 11 := by
  have e6 : (am_pI (am_pI x 12 9 0) 12 10 0).1 12 6 = x.1 12 6 := by simp [hI1]
  obtain ⟨x1, a1, a2, a3, a4, a5, a6⟩ := v_forgetBest (x := am_pI (am_pI x 12 9 0) 12 10 0) (fun q => h.1 (e6 ▸ q))
  have e7 : x1.1 12 7 = x.1 12 7 := by rw [a5 7 (by decide)]; simp [hI1]
  have e14 : x1.2 14 = x.2 14 := by rw [(a4 14 (by simp)).2]; rfl
  obtain ⟨x2, b1, b2, b3, b4, b5, b6, b7⟩ := v_forgetLawful (x := x1) (fun q j hj => by rw [e14]; exact h.2 (e7 ▸ q) j hj)
  have e13 : x2.2 13 = x1.2 13 := (b5 13 (by simp)).2
  have e9 : x2.1 12 9 = 0 := by rw [b6 9 (by decide) (by decide), a5 9 (by decide)]; simp [hI1]
  have e10 : x2.1 12 10 = 0 := by rw [b6 10 (by decide) (by decide), a5 10 (by decide)]; simp [hI1]
  have e11 : x2.1 12 11 = x.1 12 11 := by rw [b6 11 (by decide) (by decide), a5 11 (by decide)]; simp [hI1]
  refine ⟨x2, ?_, ⟨fun j hj => by rw [e13]; exact a2 j hj, b2, b4, e9, e10⟩, ⟨fun _ j hj => by rw [e13]; exact a2 j hj, fun _ => b2⟩, ?_, e11⟩
  · simp only [f_Reck_forget_18, f_Reck_forget_14, f_Reck_forget, a1, b1, Option.bind_some]
  · exact (((sx.pI x 12 9 0 (by simp)).tr (sx.pI _ 12 10 0 (by simp))).tr (a4.mono (by simp))).tr (b5.mono (by simp))
