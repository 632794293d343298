/-! putt, of, count -/
theorem puZ_z (m : am_H) : True := trivial
/-- what a putt leaves of the five numbers led -/
def pbest (b s : Int32) : Int32 := if b = 0 then s else if b ≤ s then b else s
theorem E_putt {x m : am_H} (hR : RH x m) (h : RD x m) (seed : Int32) : ∃ r x2 m2, f_Club_putt x seed = some (r, x2) ∧ f_Model_putt m seed = some (r, m2) ∧ RD x2 m2 ∧ sx [18, 20] x x2 ∧ sm [21, 22] [12] m m2 := by
  obtain ⟨h1, h2, h3, h4, h5, h6, h7⟩ := id h
  have hpl : f_Deed_place x = m.1 0 22 := h2
  simp only [f_Club_putt_28, f_Club_putt_25, f_Club_putt_17, f_Club_putt_14, f_Club_putt_11, f_Club_putt, f_Deed_playPutts_77, f_Deed_playPutts_70, f_Deed_playPutts_60, f_Deed_playPutts_21, f_Deed_playPutts_8, f_Deed_playPutts, f_Model_putt_98, f_Model_putt_88, f_Model_putt_92, f_Model_putt_78, f_Model_putt_27, f_Model_putt_14, f_Model_putt_11, f_Model_putt_8, f_Model_putt, hpl, v_Hole_isGreen hR, v_Model_isGreen m h6, h6, Bool.true_and, Option.bind_some]
  cases hg : grB m (m.1 0 22) with
  | false => exact ⟨-5, x, m, rfl, rfl, h, sx.rf _ _, sm.rf _ _ _⟩
  | true =>
    have s1 : sx [18] x (am_pI x 18 2 seed) := sx.pI _ _ _ _ (by simp)
    have s2 : sm [21] [] m (am_pI m 0 21 seed) := sm.p0 _ _ _ (by simp)
    obtain ⟨x1, a1, a2, a3⟩ := v_Draws_puttsFrom (hR.fx s1 (by decide)) (m.1 0 22)
    obtain ⟨m1, b1, b2, b3⟩ := v_Model_drawnPutts (am_pI m 0 21 seed) (m.1 0 22)
    rw [puS.fr s2 (by simp)] at b1
    have z1 : (am_pI x 18 2 seed).1 18 2 = seed := by simp [hI1]
    have z2 : (am_pI m 0 21 seed).1 0 21 = seed := by simp [hI1]
    have z3 : (am_pI x 18 2 seed).1 20 5 = m.1 0 22 := by rw [← h2]; simp [hI1]
    have z4 : (am_pI m 0 21 seed).1 0 22 = m.1 0 22 := by simp [hI1]
    rw [z1] at a1
    rw [z2] at b1
    generalize hp : puS m (m.1 0 22) seed = p at *
    have sx1 : sx [18] x x1 := s1.tr a2
    have sm1 : sm [21] [] m m1 := s2.tr b2
    have x20 : ∀ i, x1.1 20 i = x.1 20 i := fun i => by rw [(sx1 20 (by simp)).1]
    have m12 : ∀ i, m1.1 12 i = m.1 12 i := fun i => by rw [(sm1.2.2 12 (by decide) (by simp)).1]
    have ok4 : am_ok 4 5 = true := by decide
    simp only [f_Draws_begin, z3, z4, a1, b1, nl_0, nl_1, nl_2, nl_3, nl_4, nl_5, nl_6, nl_39, nl_49, nl_50, nl_51, nl_52, nl_53, nl_93, nl_130, if_true, Option.bind_some, ok4]
    have g0 := h1 0 (by decide)
    have g1 := h1 1 (by decide)
    have g2 := h1 2 (by decide)
    have g4 := h1 4 (by decide)
    refine ⟨p, am_pI (am_pI (am_pI (am_pI (am_pI x1 20 1 (m.1 12 1 + 1)) 20 2 (m.1 12 2 + (m.1 12 0 + p))) 20 4 (pbest (m.1 12 4) (m.1 12 0 + p))) 20 0 0) 20 5 0, am_pI (am_pI (am_pI (am_pI (am_pI m1 12 0 0) 12 1 (m.1 12 1 + 1)) 12 2 (m.1 12 2 + (m.1 12 0 + p))) 12 4 (pbest (m.1 12 4) (m.1 12 0 + p))) 0 22 0, ?_, ?_, ?_, ?_, ?_⟩
    · have q4 : ∀ v w, (am_pI (am_pI x1 20 1 v) 20 2 w).1 20 4 = m.1 12 4 := by intro v w; simp [-Int32.toInt_add, -Int32.toInt_sub, -Int32.toInt_neg, -Int32.toInt_mul, -Int32.toInt_div, hI1, x20, g4]
      have q2 : ∀ v, (am_pI x1 20 1 v).1 20 2 = m.1 12 2 := by intro v; simp [-Int32.toInt_add, -Int32.toInt_sub, -Int32.toInt_neg, -Int32.toInt_mul, -Int32.toInt_div, hI1, x20, g2]
      simp only [x20, g0, g1, q2, q4, pbest]
      by_cases e1 : m.1 12 4 = 0
      · simp only [e1, if_true, Option.bind_some]
      · by_cases e2 : m.1 12 4 ≤ m.1 12 0 + p
        · simp only [e1, e2, if_true, if_false, Option.bind_some]
          have : am_pI (am_pI (am_pI x1 20 1 (m.1 12 1 + 1)) 20 2 (m.1 12 2 + (m.1 12 0 + p))) 20 4 (m.1 12 4) = am_pI (am_pI x1 20 1 (m.1 12 1 + 1)) 20 2 (m.1 12 2 + (m.1 12 0 + p)) := by
            refine Prod.ext ?_ rfl
            funext a b
            rw [hI1]
            split
            · rename_i q; rw [q.1, q.2]; exact (q4 _ _).symm
            · rfl
          rw [this]
        · simp only [e1, e2, if_false, Option.bind_some]
    · have q4 : ∀ u v w, (am_pI (am_pI (am_pI m1 12 0 u) 12 1 v) 12 2 w).1 12 4 = m.1 12 4 := by intro u v w; simp [-Int32.toInt_add, -Int32.toInt_sub, -Int32.toInt_neg, -Int32.toInt_mul, -Int32.toInt_div, hI1, m12]
      have q2 : ∀ u v, (am_pI (am_pI m1 12 0 u) 12 1 v).1 12 2 = m.1 12 2 := by intro u v; simp [-Int32.toInt_add, -Int32.toInt_sub, -Int32.toInt_neg, -Int32.toInt_mul, -Int32.toInt_div, hI1, m12]
      have q1 : ∀ u, (am_pI m1 12 0 u).1 12 1 = m.1 12 1 := by intro u; simp [-Int32.toInt_add, -Int32.toInt_sub, -Int32.toInt_neg, -Int32.toInt_mul, -Int32.toInt_div, hI1, m12]
      simp only [m12, q1, q2, q4, pbest]
      by_cases e1 : m.1 12 4 = 0
      · simp only [e1, if_true]
      · by_cases e2 : m.1 12 4 ≤ m.1 12 0 + p
        · simp only [e1, e2, if_true, if_false]
        · simp only [e1, e2, if_false]
    · have h13 : m1.1 13 = m.1 13 := (sm1.2.2 13 (by decide) (by simp)).1
      have h24 : m1.1 0 24 = m.1 0 24 := sm1.1 24 (by simp)
      have x21 : x1.1 21 = x.1 21 := (sx1 21 (by simp)).1
      have x19 : x1.1 19 = x.1 19 := (sx1 19 (by simp)).1
      refine ⟨fun i hi => ?_, ?_, fun i hi => ?_, ?_, ?_, ?_, ?_⟩
      · match i, hi with
        | 0, _ => simp [-Int32.toInt_add, -Int32.toInt_sub, -Int32.toInt_neg, -Int32.toInt_mul, -Int32.toInt_div, hI1]
        | 1, _ => simp [-Int32.toInt_add, -Int32.toInt_sub, -Int32.toInt_neg, -Int32.toInt_mul, -Int32.toInt_div, hI1]
        | 2, _ => simp [-Int32.toInt_add, -Int32.toInt_sub, -Int32.toInt_neg, -Int32.toInt_mul, -Int32.toInt_div, hI1]
        | 3, _ => simp [-Int32.toInt_add, -Int32.toInt_sub, -Int32.toInt_neg, -Int32.toInt_mul, -Int32.toInt_div, hI1, x20, m12, h1 3 (by decide)]
        | 4, _ => simp [-Int32.toInt_add, -Int32.toInt_sub, -Int32.toInt_neg, -Int32.toInt_mul, -Int32.toInt_div, hI1]
      · simp [-Int32.toInt_add, -Int32.toInt_sub, -Int32.toInt_neg, -Int32.toInt_mul, -Int32.toInt_div, hI1]
      · simp [-Int32.toInt_add, -Int32.toInt_sub, -Int32.toInt_neg, -Int32.toInt_mul, -Int32.toInt_div, hI1, x21, h13]; exact h3 i hi
      · simp [-Int32.toInt_add, -Int32.toInt_sub, -Int32.toInt_neg, -Int32.toInt_mul, -Int32.toInt_div, hI1, x19, h24, h4]
      · simp [-Int32.toInt_add, -Int32.toInt_sub, -Int32.toInt_neg, -Int32.toInt_mul, -Int32.toInt_div, hI1, h24]; exact h5
      · simp [-Int32.toInt_add, -Int32.toInt_sub, -Int32.toInt_neg, -Int32.toInt_mul, -Int32.toInt_div, hI1]; decide
      · simp [-Int32.toInt_add, -Int32.toInt_sub, -Int32.toInt_neg, -Int32.toInt_mul, -Int32.toInt_div, hI1, h13, h7]
    · exact (((((sx1.mono (by simp)).tr (sx.pI _ _ _ _ (by simp))).tr (sx.pI _ _ _ _ (by simp))).tr (sx.pI _ _ _ _ (by simp))).tr (sx.pI _ _ _ _ (by simp))).tr (sx.pI _ _ _ _ (by simp))
    · exact (((((sm1.mono (by simp) (by simp)).tr (sm.pI _ _ _ _ (by decide) (by simp))).tr (sm.pI _ _ _ _ (by decide) (by simp))).tr (sm.pI _ _ _ _ (by decide) (by simp))).tr (sm.pI _ _ _ _ (by decide) (by simp))).tr (sm.p0 _ _ _ (by simp))
/-- the place of a number in the model's row; below 0: none -/
def plS (m : am_H) (n w : Int32) : Int32 := f_Model_placeOf m n w
theorem plS_eq {m : am_H} (hV : VM m) (n w : Int32) : plS m n w = if w = 0 then (if cellB n = true then n else -1) else if decide (1 ≤ w.toInt ∧ w.toInt ≤ 3) = true then (if clubB m n = true then 31 + 6 * (w - 1) + n else -1) else if n = 0 then (if decide (4 ≤ w.toInt ∧ w.toInt ≤ 8) = true then 49 + w - 4 else -1) else -1 := by
  simp only [plS, f_Model_placeOf_82, f_Model_placeOf_73, f_Model_placeOf_70, f_Model_placeOf_59, f_Model_placeOf_55, f_Model_placeOf_53, f_Model_placeOf_39, f_Model_placeOf_36, f_Model_placeOf_30, f_Model_placeOf_27, f_Model_placeOf_18, f_Model_placeOf_16, f_Model_placeOf_12, f_Model_placeOf_9, f_Model_placeOf_4, f_Model_placeOf, v_Model_isCell32, v_Model_isClub32 hV, v_Model_within32, Int64.reduceToInt]
/-- what the class and the model say of a number's place -/
theorem pl_at {x m : am_H} (hR : RH x m) (hV : VM m) (n w : Int32) : (plS m n w = -1 ∧ f_Hole_hasNumber x n w = false) ∨
    (0 ≤ (plS m n w).toInt ∧ (plS m n w).toInt < 54 ∧ f_Hole_hasNumber x n w = true ∧ f_Hole_numberAt x n w = some (m.1 1 (plS m n w).toNatClampNeg) ∧ 0 ≤ w.toInt ∧ w.toInt ≤ 8 ∧ (∀ v, f_Hole_become x n w v = some (am_pI x (xp (plS m n w).toNatClampNeg).1 (xp (plS m n w).toNatClampNeg).2 v)) ∧
      vlo (plS m n w).toNatClampNeg = (if w = 4 then 1 else if w = 5 then -3 else 0) ∧ vhi (plS m n w).toNatClampNeg = (if w = 0 then 4 else if w = 1 then 30 else if w = 2 then 3 else if w = 3 then 9 else if w = 4 then 29 else if w = 5 then 3 else 12)) := by
  have z0 : (0 : Int32).toInt = 0 := rfl
  have z1 : (1 : Int32).toInt = 1 := rfl
  have z2 : (2 : Int32).toInt = 2 := rfl
  have z3 : (3 : Int32).toInt = 3 := rfl
  have z4 : (4 : Int32).toInt = 4 := rfl
  have z5 : (5 : Int32).toInt = 5 := rfl
  have z6 : (6 : Int32).toInt = 6 := rfl
  have z7 : (7 : Int32).toInt = 7 := rfl
  have z8 : (8 : Int32).toInt = 8 := rfl
  have hcl : f_Hole_hasClub x n = clubB m n := v_Hole_hasClub hR hV n
  have hce : f_Hole_isCell n = cellB n := v_Hole_isCell n
  rw [plS_eq hV]
  by_cases e0 : w = 0
  · subst e0
    rw [if_pos rfl]
    cases hc : cellB n with
    | false =>
      left
      refine ⟨rfl, ?_⟩
      simp only [f_Hole_hasNumber_44, f_Hole_hasNumber_40, f_Hole_hasNumber_36, f_Hole_hasNumber_30, f_Hole_hasNumber_25, f_Hole_hasNumber_24, f_Hole_hasNumber_19, f_Hole_hasNumber_14, f_Hole_hasNumber_9, f_Hole_hasNumber_8, f_Hole_hasNumber_4, f_Hole_hasNumber, if_true, hce, hc]
    | true =>
      right
      have k1 := cellB_iff.mp hc
      have k2 := cellB_nat hc
      rw [if_pos rfl]
      refine ⟨k1.1, by omega, ?_, ?_, by decide, by decide, fun v => ?_, ?_, ?_⟩
      · simp only [f_Hole_hasNumber_44, f_Hole_hasNumber_40, f_Hole_hasNumber_36, f_Hole_hasNumber_30, f_Hole_hasNumber_25, f_Hole_hasNumber_24, f_Hole_hasNumber_19, f_Hole_hasNumber_14, f_Hole_hasNumber_9, f_Hole_hasNumber_8, f_Hole_hasNumber_4, f_Hole_hasNumber, if_true, hce, hc]
      · simp only [f_Hole_numberAt_68, f_Hole_numberAt_59, f_Hole_numberAt_56, f_Hole_numberAt_52, f_Hole_numberAt_88, f_Hole_numberAt_79, f_Hole_numberAt_76, f_Hole_numberAt_71, f_Hole_numberAt_108, f_Hole_numberAt_99, f_Hole_numberAt_96, f_Hole_numberAt_91, f_Hole_numberAt_128, f_Hole_numberAt_119, f_Hole_numberAt_116, f_Hole_numberAt_111, f_Hole_numberAt_131, f_Hole_numberAt_136, f_Hole_numberAt_141, f_Hole_numberAt_146, f_Hole_numberAt_151, f_Hole_numberAt_156, f_Hole_numberAt, if_true, hce, hc, ok_of k1, hR.g k2]
      · simp only [f_Hole_become_56, f_Hole_become_66, f_Hole_become_76, f_Hole_become_86, f_Hole_become_96, f_Hole_become_104, f_Hole_become_112, f_Hole_become_120, f_Hole_become_128, f_Hole_become_10, f_Hole_become_9, f_Hole_become_6, f_Hole_become, f_Hole_hasNumber_44, f_Hole_hasNumber_40, f_Hole_hasNumber_36, f_Hole_hasNumber_30, f_Hole_hasNumber_25, f_Hole_hasNumber_24, f_Hole_hasNumber_19, f_Hole_hasNumber_14, f_Hole_hasNumber_9, f_Hole_hasNumber_8, f_Hole_hasNumber_4, f_Hole_hasNumber, if_true, hce, hc, ok_of k1, xp, if_pos k2]
      · rw [vlo, if_neg (by omega), if_neg (by omega)]; rfl
      · rw [vhi, if_pos k2]; rfl
  · rw [if_neg e0]
    have n0 : ¬ w.toInt = 0 := fun q => e0 ((ti_eq _ _).mpr (by omega))
    by_cases e1 : decide (1 ≤ w.toInt ∧ w.toInt ≤ 3) = true
    · rw [if_pos e1]
      have e1' := of_decide_eq_true e1
      have w1 : ¬ w < 1 := by rw [ti_lt]; omega
      have w3 : ¬ 3 < w := by rw [ti_lt]; omega
      cases hc : clubB m n with
      | false =>
        left
        refine ⟨rfl, ?_⟩
        simp only [f_Hole_hasNumber_44, f_Hole_hasNumber_40, f_Hole_hasNumber_36, f_Hole_hasNumber_30, f_Hole_hasNumber_25, f_Hole_hasNumber_24, f_Hole_hasNumber_19, f_Hole_hasNumber_14, f_Hole_hasNumber_9, f_Hole_hasNumber_8, f_Hole_hasNumber_4, f_Hole_hasNumber, e0, w1, w3, if_false, hcl, hc]
      | true =>
        right
        have k1 := clubB_iff.mp hc
        have k2 := clubB_nat hV hc
        have k3 := hV.2
        have hn := ti_mk k1.1
        have ok6 : am_ok n 6 = true := ok_of (by omega)
        rw [if_pos rfl]
        have hw : w = 1 ∨ w = 2 ∨ w = 3 := by rw [ti_eq, ti_eq, ti_eq]; omega
        rcases hw with rfl | rfl | rfl
        · have a1 : (31 + 6 * ((1 : Int32) - 1) + n).toInt = 31 + n.toInt := by rw [ti_add]; have : (31 + 6 * ((1 : Int32) - 1)).toInt = 31 := rfl; omega
          have a2 : (31 + 6 * ((1 : Int32) - 1) + n).toNatClampNeg = 31 + n.toNatClampNeg := by rw [ti_nat, a1, ti_nat]; omega
          refine ⟨by omega, by omega, ?_, ?_, by decide, by decide, fun v => ?_, ?_, ?_⟩
          · simp only [f_Hole_hasNumber_44, f_Hole_hasNumber_40, f_Hole_hasNumber_36, f_Hole_hasNumber_30, f_Hole_hasNumber_25, f_Hole_hasNumber_24, f_Hole_hasNumber_19, f_Hole_hasNumber_14, f_Hole_hasNumber_9, f_Hole_hasNumber_8, f_Hole_hasNumber_4, f_Hole_hasNumber, e0, w1, w3, if_false, hcl, hc]
          · rw [a2]; simp only [f_Hole_numberAt_68, f_Hole_numberAt_59, f_Hole_numberAt_56, f_Hole_numberAt_52, f_Hole_numberAt_88, f_Hole_numberAt_79, f_Hole_numberAt_76, f_Hole_numberAt_71, f_Hole_numberAt_108, f_Hole_numberAt_99, f_Hole_numberAt_96, f_Hole_numberAt_91, f_Hole_numberAt_128, f_Hole_numberAt_119, f_Hole_numberAt_116, f_Hole_numberAt_111, f_Hole_numberAt_131, f_Hole_numberAt_136, f_Hole_numberAt_141, f_Hole_numberAt_146, f_Hole_numberAt_151, f_Hole_numberAt_156, f_Hole_numberAt, e0, if_true, if_false, hcl, hc, ok6, hR.c k2]
          · rw [a2, xp, if_neg (by omega), if_pos (by omega)]
            simp only [f_Hole_become_56, f_Hole_become_66, f_Hole_become_76, f_Hole_become_86, f_Hole_become_96, f_Hole_become_104, f_Hole_become_112, f_Hole_become_120, f_Hole_become_128, f_Hole_become_10, f_Hole_become_9, f_Hole_become_6, f_Hole_become, f_Hole_hasNumber_44, f_Hole_hasNumber_40, f_Hole_hasNumber_36, f_Hole_hasNumber_30, f_Hole_hasNumber_25, f_Hole_hasNumber_24, f_Hole_hasNumber_19, f_Hole_hasNumber_14, f_Hole_hasNumber_9, f_Hole_hasNumber_8, f_Hole_hasNumber_4, f_Hole_hasNumber, e0, w1, w3, if_true, if_false, hcl, hc, ok6, Nat.add_sub_cancel_left]
          · rw [a2, vlo, if_neg (by omega), if_neg (by omega)]; rfl
          · rw [a2, vhi, if_neg (by omega), if_pos (by omega)]; rfl
        · have a1 : (31 + 6 * ((2 : Int32) - 1) + n).toInt = 37 + n.toInt := by rw [ti_add]; have : (31 + 6 * ((2 : Int32) - 1)).toInt = 37 := rfl; omega
          have a2 : (31 + 6 * ((2 : Int32) - 1) + n).toNatClampNeg = 37 + n.toNatClampNeg := by rw [ti_nat, a1, ti_nat]; omega
          have q1 : ¬ (2 : Int32) = 1 := by decide
          refine ⟨by omega, by omega, ?_, ?_, by decide, by decide, fun v => ?_, ?_, ?_⟩
          · simp only [f_Hole_hasNumber_44, f_Hole_hasNumber_40, f_Hole_hasNumber_36, f_Hole_hasNumber_30, f_Hole_hasNumber_25, f_Hole_hasNumber_24, f_Hole_hasNumber_19, f_Hole_hasNumber_14, f_Hole_hasNumber_9, f_Hole_hasNumber_8, f_Hole_hasNumber_4, f_Hole_hasNumber, e0, w1, w3, if_false, hcl, hc]
          · rw [a2]; simp only [f_Hole_numberAt_68, f_Hole_numberAt_59, f_Hole_numberAt_56, f_Hole_numberAt_52, f_Hole_numberAt_88, f_Hole_numberAt_79, f_Hole_numberAt_76, f_Hole_numberAt_71, f_Hole_numberAt_108, f_Hole_numberAt_99, f_Hole_numberAt_96, f_Hole_numberAt_91, f_Hole_numberAt_128, f_Hole_numberAt_119, f_Hole_numberAt_116, f_Hole_numberAt_111, f_Hole_numberAt_131, f_Hole_numberAt_136, f_Hole_numberAt_141, f_Hole_numberAt_146, f_Hole_numberAt_151, f_Hole_numberAt_156, f_Hole_numberAt, e0, q1, if_true, if_false, hcl, hc, ok6, hR.s k2]
          · rw [a2, xp, if_neg (by omega), if_neg (by omega), if_pos (by omega)]
            simp only [f_Hole_become_56, f_Hole_become_66, f_Hole_become_76, f_Hole_become_86, f_Hole_become_96, f_Hole_become_104, f_Hole_become_112, f_Hole_become_120, f_Hole_become_128, f_Hole_become_10, f_Hole_become_9, f_Hole_become_6, f_Hole_become, f_Hole_hasNumber_44, f_Hole_hasNumber_40, f_Hole_hasNumber_36, f_Hole_hasNumber_30, f_Hole_hasNumber_25, f_Hole_hasNumber_24, f_Hole_hasNumber_19, f_Hole_hasNumber_14, f_Hole_hasNumber_9, f_Hole_hasNumber_8, f_Hole_hasNumber_4, f_Hole_hasNumber, e0, q1, w1, w3, if_true, if_false, hcl, hc, ok6, Nat.add_sub_cancel_left]
          · rw [a2, vlo, if_neg (by omega), if_neg (by omega)]; rfl
          · rw [a2, vhi, if_neg (by omega), if_neg (by omega), if_pos (by omega)]; rfl
        · have a1 : (31 + 6 * ((3 : Int32) - 1) + n).toInt = 43 + n.toInt := by rw [ti_add]; have : (31 + 6 * ((3 : Int32) - 1)).toInt = 43 := rfl; omega
          have a2 : (31 + 6 * ((3 : Int32) - 1) + n).toNatClampNeg = 43 + n.toNatClampNeg := by rw [ti_nat, a1, ti_nat]; omega
          have q1 : ¬ (3 : Int32) = 1 := by decide
          have q2 : ¬ (3 : Int32) = 2 := by decide
          refine ⟨by omega, by omega, ?_, ?_, by decide, by decide, fun v => ?_, ?_, ?_⟩
          · simp only [f_Hole_hasNumber_44, f_Hole_hasNumber_40, f_Hole_hasNumber_36, f_Hole_hasNumber_30, f_Hole_hasNumber_25, f_Hole_hasNumber_24, f_Hole_hasNumber_19, f_Hole_hasNumber_14, f_Hole_hasNumber_9, f_Hole_hasNumber_8, f_Hole_hasNumber_4, f_Hole_hasNumber, e0, w1, w3, if_false, hcl, hc]
          · rw [a2]; simp only [f_Hole_numberAt_68, f_Hole_numberAt_59, f_Hole_numberAt_56, f_Hole_numberAt_52, f_Hole_numberAt_88, f_Hole_numberAt_79, f_Hole_numberAt_76, f_Hole_numberAt_71, f_Hole_numberAt_108, f_Hole_numberAt_99, f_Hole_numberAt_96, f_Hole_numberAt_91, f_Hole_numberAt_128, f_Hole_numberAt_119, f_Hole_numberAt_116, f_Hole_numberAt_111, f_Hole_numberAt_131, f_Hole_numberAt_136, f_Hole_numberAt_141, f_Hole_numberAt_146, f_Hole_numberAt_151, f_Hole_numberAt_156, f_Hole_numberAt, e0, q1, q2, if_true, if_false, hcl, hc, ok6, hR.b k2]
          · rw [a2, xp, if_neg (by omega), if_neg (by omega), if_neg (by omega), if_pos (by omega)]
            simp only [f_Hole_become_56, f_Hole_become_66, f_Hole_become_76, f_Hole_become_86, f_Hole_become_96, f_Hole_become_104, f_Hole_become_112, f_Hole_become_120, f_Hole_become_128, f_Hole_become_10, f_Hole_become_9, f_Hole_become_6, f_Hole_become, f_Hole_hasNumber_44, f_Hole_hasNumber_40, f_Hole_hasNumber_36, f_Hole_hasNumber_30, f_Hole_hasNumber_25, f_Hole_hasNumber_24, f_Hole_hasNumber_19, f_Hole_hasNumber_14, f_Hole_hasNumber_9, f_Hole_hasNumber_8, f_Hole_hasNumber_4, f_Hole_hasNumber, e0, q1, q2, w1, w3, if_true, if_false, hcl, hc, ok6, Nat.add_sub_cancel_left]
          · rw [a2, vlo, if_neg (by omega), if_neg (by omega)]; rfl
          · rw [a2, vhi, if_neg (by omega), if_neg (by omega), if_neg (by omega), if_pos (by omega)]; rfl
    · rw [if_neg e1]
      rw [decide_eq_true_iff] at e1
      by_cases e2 : n = 0 ∧ (4 ≤ w.toInt ∧ w.toInt ≤ 8)
      · right
        obtain ⟨rfl, e3⟩ := e2
        rw [if_pos rfl, if_pos (decide_eq_true e3)]
        have hw : w = 4 ∨ w = 5 ∨ w = 6 ∨ w = 7 ∨ w = 8 := by rw [ti_eq, ti_eq, ti_eq, ti_eq, ti_eq]; omega
        rcases hw with rfl | rfl | rfl | rfl | rfl
        · exact ⟨by decide, by decide, rfl, by simp only [f_Hole_numberAt_68, f_Hole_numberAt_59, f_Hole_numberAt_56, f_Hole_numberAt_52, f_Hole_numberAt_88, f_Hole_numberAt_79, f_Hole_numberAt_76, f_Hole_numberAt_71, f_Hole_numberAt_108, f_Hole_numberAt_99, f_Hole_numberAt_96, f_Hole_numberAt_91, f_Hole_numberAt_128, f_Hole_numberAt_119, f_Hole_numberAt_116, f_Hole_numberAt_111, f_Hole_numberAt_131, f_Hole_numberAt_136, f_Hole_numberAt_141, f_Hole_numberAt_146, f_Hole_numberAt_151, f_Hole_numberAt_156, f_Hole_numberAt]; rw [hR.pin] <;> rfl, by decide, by decide, fun v => rfl, rfl, rfl⟩
        · exact ⟨by decide, by decide, rfl, by simp only [f_Hole_numberAt_68, f_Hole_numberAt_59, f_Hole_numberAt_56, f_Hole_numberAt_52, f_Hole_numberAt_88, f_Hole_numberAt_79, f_Hole_numberAt_76, f_Hole_numberAt_71, f_Hole_numberAt_108, f_Hole_numberAt_99, f_Hole_numberAt_96, f_Hole_numberAt_91, f_Hole_numberAt_128, f_Hole_numberAt_119, f_Hole_numberAt_116, f_Hole_numberAt_111, f_Hole_numberAt_131, f_Hole_numberAt_136, f_Hole_numberAt_141, f_Hole_numberAt_146, f_Hole_numberAt_151, f_Hole_numberAt_156, f_Hole_numberAt]; rw [hR.wind] <;> rfl, by decide, by decide, fun v => rfl, rfl, rfl⟩
        · exact ⟨by decide, by decide, rfl, by simp only [f_Hole_numberAt_68, f_Hole_numberAt_59, f_Hole_numberAt_56, f_Hole_numberAt_52, f_Hole_numberAt_88, f_Hole_numberAt_79, f_Hole_numberAt_76, f_Hole_numberAt_71, f_Hole_numberAt_108, f_Hole_numberAt_99, f_Hole_numberAt_96, f_Hole_numberAt_91, f_Hole_numberAt_128, f_Hole_numberAt_119, f_Hole_numberAt_116, f_Hole_numberAt_111, f_Hole_numberAt_131, f_Hole_numberAt_136, f_Hole_numberAt_141, f_Hole_numberAt_146, f_Hole_numberAt_151, f_Hole_numberAt_156, f_Hole_numberAt]; rw [hR.touch] <;> rfl, by decide, by decide, fun v => rfl, rfl, rfl⟩
        · exact ⟨by decide, by decide, rfl, by simp only [f_Hole_numberAt_68, f_Hole_numberAt_59, f_Hole_numberAt_56, f_Hole_numberAt_52, f_Hole_numberAt_88, f_Hole_numberAt_79, f_Hole_numberAt_76, f_Hole_numberAt_71, f_Hole_numberAt_108, f_Hole_numberAt_99, f_Hole_numberAt_96, f_Hole_numberAt_91, f_Hole_numberAt_128, f_Hole_numberAt_119, f_Hole_numberAt_116, f_Hole_numberAt_111, f_Hole_numberAt_131, f_Hole_numberAt_136, f_Hole_numberAt_141, f_Hole_numberAt_146, f_Hole_numberAt_151, f_Hole_numberAt_156, f_Hole_numberAt]; rw [hR.bold] <;> rfl, by decide, by decide, fun v => rfl, rfl, rfl⟩
        · exact ⟨by decide, by decide, rfl, by simp only [f_Hole_numberAt_68, f_Hole_numberAt_59, f_Hole_numberAt_56, f_Hole_numberAt_52, f_Hole_numberAt_88, f_Hole_numberAt_79, f_Hole_numberAt_76, f_Hole_numberAt_71, f_Hole_numberAt_108, f_Hole_numberAt_99, f_Hole_numberAt_96, f_Hole_numberAt_91, f_Hole_numberAt_128, f_Hole_numberAt_119, f_Hole_numberAt_116, f_Hole_numberAt_111, f_Hole_numberAt_131, f_Hole_numberAt_136, f_Hole_numberAt_141, f_Hole_numberAt_146, f_Hole_numberAt_151, f_Hole_numberAt_156, f_Hole_numberAt]; rw [hR.risk] <;> rfl, by decide, by decide, fun v => rfl, rfl, rfl⟩
      · left
        constructor
        · by_cases e4 : n = 0
          · have e5 : ¬ (4 ≤ w.toInt ∧ w.toInt ≤ 8) := fun q => e2 ⟨e4, q⟩
            rw [if_pos e4, if_neg (by rw [decide_eq_true_iff]; exact e5)]
          · rw [if_neg e4]
        · have w13 : w < 1 ∨ 3 < w := by rw [ti_lt, ti_lt]; omega
          have key : f_Hole_hasNumber_25 x n w = false := by
            simp only [f_Hole_hasNumber_25, f_Hole_hasNumber_30, f_Hole_hasNumber_36, f_Hole_hasNumber_40, f_Hole_hasNumber_44]
            by_cases q4 : w < 4
            · rw [if_pos q4]
            · rw [if_neg q4]
              by_cases q8 : 8 < w
              · rw [if_pos q8]
              · rw [if_neg q8]
                have : ¬ n = 0 := fun q => e2 ⟨q, by rw [ti_lt] at q4 q8; omega⟩
                rw [if_neg this]
          simp only [f_Hole_hasNumber, f_Hole_hasNumber_9, f_Hole_hasNumber_14, if_neg e0]
          rcases w13 with q | q
          · rw [if_pos q]; exact key
          · by_cases q1 : w < 1
            · rw [if_pos q1]; exact key
            · rw [if_neg q1, if_pos q]; exact key
theorem E_of {x m : am_H} (hR : RH x m) (hV : VM m) (h : RD x m) (n w : Int32) : ∃ r, f_Club_of x n w = some r ∧ f_Model_of m n w = some r := by
  have hpl : f_Deed_place x = m.1 0 22 := h.2.1
  have hp : f_Model_placeOf m n w = plS m n w := rfl
  have z0 : (0 : Int32).toInt = 0 := rfl
  simp only [f_Club_of_42, f_Club_of_39, f_Club_of_30, f_Club_of_27, f_Club_of_18, f_Club_of_17, f_Club_of_10, f_Club_of_6, f_Club_of, f_Model_of_35, f_Model_of_28, f_Model_of_22, f_Model_of_18, f_Model_of_11, f_Model_of_6, f_Model_of, hpl, hp]
  rcases pl_at hR hV n w with ⟨a, b⟩ | ⟨a, b, c, d, e, f, -⟩
  · have hneg : plS m n w < 0 := by rw [a]; decide
    simp only [b, hneg, if_true, if_false, Bool.false_eq_true]
    by_cases e9 : w = 9
    · by_cases e0 : n = 0
      · exact ⟨m.1 0 22, by simp only [e9, e0, if_true], by simp only [e9, e0, if_true]⟩
      · exact ⟨-2000000000, by simp only [e9, e0, if_true, if_false], by simp only [e0, if_false]⟩
    · refine ⟨-2000000000, by simp only [e9, if_false], ?_⟩
      simp only [e9, if_false]
      split <;> rfl
  · have hneg : ¬ plS m n w < 0 := by rw [ti_lt]; omega
    have e9 : ¬ w = 9 := by rw [ti_eq]; have : (9 : Int32).toInt = 9 := rfl; omega
    exact ⟨m.1 1 (plS m n w).toNatClampNeg, by simp only [e9, c, d, if_true, if_false, Option.bind_some], by simp only [hneg, if_false, ok_of (i := plS m n w) (n := 54) ⟨a, b⟩, if_true]⟩
