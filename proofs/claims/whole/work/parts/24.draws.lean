/-! draws; hit, putt -/
/-! two functions of the draws, known by their laws alone (no one works them out) -/
theorem zN_ex : ∃ f : Int32 → Int32, ∀ z, f z = z * 1103515245 + 12345 := ⟨_, fun _ => rfl⟩
noncomputable def zN : Int32 → Int32 := Classical.choose zN_ex
theorem zN_eq (z : Int32) : zN z = z * 1103515245 + 12345 := Classical.choose_spec zN_ex z
theorem drW_ex : ∃ f : Int32 → Int32 → Int32, ∀ z w, f z w = ((z.toUInt32 >>> (Int32.toUInt32 8 &&& Int32.toUInt32 31)).toInt32) - ((z.toUInt32 >>> (Int32.toUInt32 8 &&& Int32.toUInt32 31)).toInt32) / w * w := ⟨_, fun _ _ => rfl⟩
noncomputable def drW : Int32 → Int32 → Int32 := Classical.choose drW_ex
theorem drW_eq (z w : Int32) : drW z w = ((z.toUInt32 >>> (Int32.toUInt32 8 &&& Int32.toUInt32 31)).toInt32) - ((z.toUInt32 >>> (Int32.toUInt32 8 &&& Int32.toUInt32 31)).toInt32) / w * w := Classical.choose_spec drW_ex z w
theorem v_Draws_draw (x : am_H) {w : Int32} (h : 0 < w) : f_Draws_draw x w = some (drW (zN (x.1 18 2)) w, am_pI x 18 2 (zN (x.1 18 2))) := by
  have h0 : ¬ w = 0 := by intro e; rw [e] at h; exact absurd h (by decide)
  have e2 : (am_pI x 18 2 (zN (x.1 18 2))).1 18 2 = zN (x.1 18 2) := by rw [hI1, if_pos ⟨rfl, rfl⟩]
  simp only [f_Draws_draw_23, f_Draws_draw_19, f_Draws_draw, ← zN_eq, if_pos h, if_pos h0, e2, ← drW_eq]
theorem v_Model_draws (m : am_H) {w : Int32} (h0 : ¬ w = 0) : f_Model_draws m w = some (drW (zN (m.1 0 21)) w, am_pI m 0 21 (zN (m.1 0 21))) := by
  have e2 : (am_pI m 0 21 (zN (m.1 0 21))).1 0 21 = zN (m.1 0 21) := by rw [hI1, if_pos ⟨rfl, rfl⟩]
  simp only [f_Model_draws, ← zN_eq, if_pos h0, e2, ← drW_eq]
theorem odd_pos {m : am_H} (hV : VM m) {c : Int32} (h : clubB m c = true) : 0 < 2 * spS m c + 1 ∧ ¬ 2 * spS m c + 1 = 0 := by
  have h1 := odd_b hV h
  have h2 := spS_b hV h
  have z0 : (0 : Int32).toInt = 0 := rfl
  exact ⟨by rw [ti_lt]; omega, by rw [ti_eq]; omega⟩
noncomputable def fallS (m : am_H) (from_ c z : Int32) : Int32 := downS m from_ (caS m c) (drW (zN z) (2 * spS m c + 1) - spS m c)
theorem v_Draws_fall {x m : am_H} (hR : RH x m) (hV : VM m) {from_ c : Int32} (hf : cellB from_ = true) (hc : clubB m c = true) : f_Draws_fall x from_ c = some (fallS m from_ c (x.1 18 2), am_pI x 18 2 (zN (x.1 18 2))) := by
  have hR2 : RH (am_pI x 18 2 (zN (x.1 18 2))) m := hR.fx (sx.pI (ks := [18]) x 18 2 _ (by simp)) (by decide)
  simp only [f_Draws_fall_43, f_Draws_fall_38, f_Draws_fall_35, f_Draws_fall_20, f_Draws_fall_12, f_Draws_fall_9, f_Draws_fall, v_Hole_waysOf hR hV hc, Option.bind_some, v_Draws_draw x (odd_pos hV hc).1, v_Hole_spreadOf hR2 hV hc, v_Hole_carryOf hR2 hV hc, v_Hole_aim hR2 hf, v_Hole_held]
  rfl
theorem v_Model_drawnDown {m : am_H} (hV : VM m) {from_ c : Int32} (hf : cellB from_ = true) (hc : clubB m c = true) : f_Model_drawnDown m from_ c = some (fallS m from_ c (m.1 0 21), am_pI m 0 21 (zN (m.1 0 21))) := by
  obtain ⟨⟨a1, a2⟩, ⟨a3, a4⟩, -, -⟩ := at_club hV hc
  simp only [f_Model_drawnDown_35, f_Model_drawnDown_30, f_Model_drawnDown, a1, a2, a3, a4, if_true, v_Model_draws m (odd_pos hV hc).2, Option.bind_some, v_Model_downOf _ hf]
  rfl
theorem fallS_cell (m : am_H) (a b c : Int32) : cellB (fallS m a b c) = true := downS_cell _ _ _ _
/-- strokes to hole out from a green cell by draws: how many, and the next z -/
noncomputable def puS (m : am_H) (cell z : Int32) : Int32 := if cell = m.1 1 49 then 1 else if m.1 1 51 ≤ drW (zN z) 12 then 2 else 1
noncomputable def puZ (m : am_H) (cell z : Int32) : Int32 := if cell = m.1 1 49 then z else zN z
theorem v_Draws_puttsFrom {x m : am_H} (hR : RH x m) (cell : Int32) : ∃ x2, f_Draws_puttsFrom x cell = some (puS m cell (x.1 18 2), x2) ∧ sx [18] x x2 ∧ x2.1 18 2 = puZ m cell (x.1 18 2) := by
  simp only [f_Draws_puttsFrom_33, f_Draws_puttsFrom_29, f_Draws_puttsFrom_26, f_Draws_puttsFrom_19, f_Draws_puttsFrom_13, f_Draws_puttsFrom_11, f_Draws_puttsFrom_8, f_Draws_puttsFrom, f_Hole_isPin_12, f_Hole_isPin_8, f_Hole_isPin, f_Hole_touchNow, hR.pin, puS, puZ]
  by_cases e : cell = m.1 1 49
  · exact ⟨x, by simp only [e, if_true], sx.rf _ _, by simp only [e, if_true]⟩
  · have ht : (am_pI x 18 2 (zN (x.1 18 2))).1 1 7 = m.1 1 51 := by rw [← hR.touch]; simp [hI1]
    refine ⟨am_pI x 18 2 (zN (x.1 18 2)), ?_, sx.pI _ _ _ _ (by simp), ?_⟩
    · simp only [e, if_false, Bool.false_eq_true, v_Draws_draw x (w := 12) (by decide), Option.bind_some, ht]
      split <;> rfl
    · simp [e, hI1]
theorem v_Model_drawnPutts (m : am_H) (cell : Int32) : ∃ m2, f_Model_drawnPutts m cell = some (puS m cell (m.1 0 21), m2) ∧ sm [21] [] m m2 ∧ m2.1 0 21 = puZ m cell (m.1 0 21) := by
  simp only [f_Model_drawnPutts_27, f_Model_drawnPutts_31, f_Model_drawnPutts_17, f_Model_drawnPutts_11, f_Model_drawnPutts, nl_0, nl_1, nl_2, nl_3, nl_4, nl_5, nl_6, nl_39, nl_49, nl_50, nl_51, nl_52, nl_53, nl_93, nl_130, puS, puZ]
  by_cases e : cell = m.1 1 49
  · exact ⟨m, by simp only [e, if_true], sm.rf _ _ _, by simp only [e, if_true]⟩
  · have ht : (am_pI m 0 21 (zN (m.1 0 21))).1 1 51 = m.1 1 51 := by simp [hI1]
    refine ⟨am_pI m 0 21 (zN (m.1 0 21)), ?_, sm.p0 _ _ _ (by simp), ?_⟩
    · simp only [e, if_false, v_Model_draws m (w := 12) (by decide), Option.bind_some, ht]
      split <;> rfl
    · simp [e, hI1]
theorem grB.fr {m m2 : am_H} {ss ks : List Nat} (s : sm ss ks m m2) (h : 1 ∉ ks) : grB m2 = grB m := by
  funext c; unfold grB; rw [(s.2.2 1 (by decide) h).1]
theorem waB.fr {m m2 : am_H} {ss ks : List Nat} (s : sm ss ks m m2) (h : 1 ∉ ks) : waB m2 = waB m := by
  funext c; unfold waB; rw [(s.2.2 1 (by decide) h).1]
theorem fallS.fr {m m2 : am_H} {ss ks : List Nat} (s : sm ss ks m m2) (h : 1 ∉ ks) : fallS m2 = fallS m := by
  have e := (s.2.2 1 (by decide) h).1
  funext a b c
  unfold fallS downS aimS goesS caS spS
  rw [e]
theorem puS.fr {m m2 : am_H} {ss ks : List Nat} (s : sm ss ks m m2) (h : 1 ∉ ks) : puS m2 = puS m := by
  have e := (s.2.2 1 (by decide) h).1
  funext a b
  unfold puS
  rw [e]
theorem i32_11 (s : Int32) : s + 1 + 1 = s + 2 := by rw [Int32.add_assoc]; rfl
theorem E_hit {x m : am_H} (hR : RH x m) (hV : VM m) (h : RD x m) (c seed : Int32) : ∃ r x2 m2, f_Club_hit x c seed = some (r, x2) ∧ f_Model_hit m c seed = some (r, m2) ∧ RD x2 m2 ∧ sx [18, 20] x x2 ∧ sm [21, 22] [12] m m2 := by
  obtain ⟨h1, h2, h3, h4, h5, h6, h7⟩ := id h
  have hpl : f_Deed_place x = m.1 0 22 := h2
  simp only [f_Club_hit_44, f_Club_hit_35, f_Club_hit_30, f_Club_hit_27, f_Club_hit_24, f_Club_hit_13, f_Club_hit_11, f_Club_hit_8, f_Club_hit, f_Deed_playShot_74, f_Deed_playShot_67, f_Deed_playShot_44, f_Deed_playShot_41, f_Deed_playShot_22, f_Deed_playShot_8, f_Deed_playShot, f_Model_hit_101, f_Model_hit_100, f_Model_hit_93, f_Model_hit_90, f_Model_hit_82, f_Model_hit_81, f_Model_hit_77, f_Model_hit_74, f_Model_hit_60, f_Model_hit_59, f_Model_hit_55, f_Model_hit_52, f_Model_hit_39, f_Model_hit_25, f_Model_hit_22, f_Model_hit_19, f_Model_hit_11, f_Model_hit_9, f_Model_hit_6, f_Model_hit, v_Hole_hasClub hR hV, v_Model_isClub32 hV, hpl, v_Hole_isGreen hR, v_Model_isGreen m h6, h6, Bool.true_and, Option.bind_some]
  cases hc : clubB m c with
  | false => exact ⟨-1, x, m, rfl, rfl, h, sx.rf _ _, sm.rf _ _ _⟩
  | true =>
    cases hg : grB m (m.1 0 22) with
    | true => exact ⟨-5, x, m, rfl, rfl, h, sx.rf _ _, sm.rf _ _ _⟩
    | false =>
      have s1 : sx [18] x (am_pI x 18 2 seed) := sx.pI _ _ _ _ (by simp)
      have s2 : sm [21] [] m (am_pI m 0 21 seed) := sm.p0 _ _ _ (by simp)
      have c1 : clubB (am_pI m 0 21 seed) c = true := by rw [← hc]; unfold clubB; simp [hI1]
      have f1 := v_Draws_fall (hR.fx s1 (by decide)) hV h6 hc
      have f2 := v_Model_drawnDown (hV.fr s2 (by decide) (by decide)) h6 c1
      rw [fallS.fr s2 (by simp)] at f2
      have z1 : (am_pI x 18 2 seed).1 18 2 = seed := by simp [hI1]
      have z2 : (am_pI m 0 21 seed).1 0 21 = seed := by simp [hI1]
      have z3 : (am_pI x 18 2 seed).1 20 5 = m.1 0 22 := by rw [← h2]; simp [hI1]
      have z4 : (am_pI m 0 21 seed).1 0 22 = m.1 0 22 := by simp [hI1]
      have hd := fallS_cell m (m.1 0 22) c seed
      generalize hfl : fallS m (m.1 0 22) c seed = fl at *
      rw [z1, hfl] at f1
      rw [z2, hfl] at f2
      have s3 : sx [18, 20] x (am_pI (am_pI (am_pI x 18 2 seed) 18 2 (zN seed)) 20 0 (x.1 20 0 + 1)) := ((sx.pI _ _ _ _ (by simp)).tr (sx.pI _ _ _ _ (by simp))).tr (sx.pI _ _ _ _ (by simp))
      have w1 := v_Hole_isWater (hR.fx s3 (by decide)) fl
      have wm : ∀ v w, f_Model_isWater (am_pI (am_pI (am_pI m 0 21 seed) 0 21 (zN seed)) 12 0 v) fl = some (waB m fl) ∧ f_Model_isWater (am_pI (am_pI (am_pI (am_pI m 0 21 seed) 0 21 (zN seed)) 12 0 v) 12 3 w) fl = some (waB m fl) ∧ f_Model_isWater (am_pI (am_pI m 0 21 seed) 0 21 (zN seed)) fl = some (waB m fl) := by
        intro v w
        have t1 : sm [21] [12] m (am_pI (am_pI (am_pI m 0 21 seed) 0 21 (zN seed)) 12 0 v) := ((sm.p0 _ _ _ (by simp)).tr (sm.p0 _ _ _ (by simp))).tr (sm.pI _ _ _ _ (by decide) (by simp))
        have t2 : sm [21] [12] m (am_pI (am_pI (am_pI (am_pI m 0 21 seed) 0 21 (zN seed)) 12 0 v) 12 3 w) := t1.tr (sm.pI _ _ _ _ (by decide) (by simp))
        have t3 : sm [21] [12] m (am_pI (am_pI m 0 21 seed) 0 21 (zN seed)) := (sm.p0 _ _ _ (by simp)).tr (sm.p0 _ _ _ (by simp))
        refine ⟨?_, ?_, ?_⟩
        · rw [v_Model_isWater _ hd, waB.fr t1 (by simp)]
        · rw [v_Model_isWater _ hd, waB.fr t2 (by simp)]
        · rw [v_Model_isWater _ hd, waB.fr t3 (by simp)]
      have x0 : (am_pI (am_pI x 18 2 seed) 18 2 (zN seed)).1 20 0 = x.1 20 0 := by simp [hI1]
      have hm0 : (am_pI (am_pI m 0 21 seed) 0 21 (zN seed)).1 12 0 = m.1 12 0 := by simp [hI1]
      simp only [f_Draws_begin, z3, z4, f1, f2, nl_0, nl_1, nl_2, nl_3, nl_4, nl_5, nl_6, nl_39, nl_49, nl_50, nl_51, nl_52, nl_53, nl_93, nl_130, x0, hm0, if_true, if_false, Bool.false_eq_true, Option.bind_some, w1, hd, Bool.true_and, (wm 0 0).2.2]
      have ok0 : am_ok 0 5 = true := by decide
      have ok3 : am_ok 3 5 = true := by decide
      cases hw : waB m fl with
      | true =>
        refine ⟨m.1 0 22, am_pI (am_pI (am_pI (am_pI (am_pI x 18 2 seed) 18 2 (zN seed)) 20 0 (x.1 20 0 + 1)) 20 0 (x.1 20 0 + 1 + 1)) 20 3 (x.1 20 3 + 1), am_pI (am_pI (am_pI (am_pI (am_pI m 0 21 seed) 0 21 (zN seed)) 12 0 (m.1 12 0 + 2)) 12 3 (m.1 12 3 + 1)) 0 22 (m.1 0 22), ?_, ?_, ?_, ?_, ?_⟩
        · simp [-Int32.toInt_add, -Int32.toInt_sub, -Int32.toInt_neg, -Int32.toInt_mul, -Int32.toInt_div, hI1, h2]
        · simp only [ok0, ok3, if_true, nl_0, nl_1, nl_2, nl_3, nl_4, nl_5, nl_6, nl_39, nl_49, nl_50, nl_51, nl_52, nl_53, nl_93, nl_130, (wm _ 0).1, (wm _ _).2.1, hw, Option.bind_some]
          simp [-Int32.toInt_add, -Int32.toInt_sub, -Int32.toInt_neg, -Int32.toInt_mul, -Int32.toInt_div, hI1, hw, (wm _ _).2.1, (wm _ 0).1, ok3, nl_0, nl_1, nl_2, nl_3, nl_4, nl_5, nl_6, nl_39, nl_49, nl_50, nl_51, nl_52, nl_53, nl_93, nl_130]
        · refine ⟨fun i hi => ?_, ?_, fun i hi => ?_, ?_, ?_, ?_, ?_⟩
          · match i, hi with
            | 0, _ => simp [-Int32.toInt_add, -Int32.toInt_sub, -Int32.toInt_neg, -Int32.toInt_mul, -Int32.toInt_div, hI1, h1 0 (by decide), i32_11]
            | 1, _ => simp [-Int32.toInt_add, -Int32.toInt_sub, -Int32.toInt_neg, -Int32.toInt_mul, -Int32.toInt_div, hI1, h1 1 (by decide)]
            | 2, _ => simp [-Int32.toInt_add, -Int32.toInt_sub, -Int32.toInt_neg, -Int32.toInt_mul, -Int32.toInt_div, hI1, h1 2 (by decide)]
            | 3, _ => simp [-Int32.toInt_add, -Int32.toInt_sub, -Int32.toInt_neg, -Int32.toInt_mul, -Int32.toInt_div, hI1, h1 3 (by decide)]
            | 4, _ => simp [-Int32.toInt_add, -Int32.toInt_sub, -Int32.toInt_neg, -Int32.toInt_mul, -Int32.toInt_div, hI1, h1 4 (by decide)]
          · simp [-Int32.toInt_add, -Int32.toInt_sub, -Int32.toInt_neg, -Int32.toInt_mul, -Int32.toInt_div, hI1, h2]
          · simp [-Int32.toInt_add, -Int32.toInt_sub, -Int32.toInt_neg, -Int32.toInt_mul, -Int32.toInt_div, hI1]; exact h3 i hi
          · simp [-Int32.toInt_add, -Int32.toInt_sub, -Int32.toInt_neg, -Int32.toInt_mul, -Int32.toInt_div, hI1, h4]
          · simp [-Int32.toInt_add, -Int32.toInt_sub, -Int32.toInt_neg, -Int32.toInt_mul, -Int32.toInt_div, hI1]; exact h5
          · simp [-Int32.toInt_add, -Int32.toInt_sub, -Int32.toInt_neg, -Int32.toInt_mul, -Int32.toInt_div, hI1, h6]
          · simp [-Int32.toInt_add, -Int32.toInt_sub, -Int32.toInt_neg, -Int32.toInt_mul, -Int32.toInt_div, hI1, h7]
        · exact (s3.tr (sx.pI _ _ _ _ (by simp))).tr (sx.pI _ _ _ _ (by simp))
        · exact ((((sm.p0 _ _ _ (by simp)).tr (sm.p0 _ _ _ (by simp))).tr (sm.pI _ _ _ _ (by decide) (by simp))).tr (sm.pI _ _ _ _ (by decide) (by simp))).tr (sm.p0 _ _ _ (by simp))
      | false =>
        refine ⟨fl, am_pI (am_pI (am_pI (am_pI x 18 2 seed) 18 2 (zN seed)) 20 0 (x.1 20 0 + 1)) 20 5 fl, am_pI (am_pI (am_pI (am_pI (am_pI m 0 21 seed) 0 21 (zN seed)) 12 0 (m.1 12 0 + 1)) 12 3 (m.1 12 3 + 0)) 0 22 fl, ?_, ?_, ?_, ?_, ?_⟩
        · simp [-Int32.toInt_add, -Int32.toInt_sub, -Int32.toInt_neg, -Int32.toInt_mul, -Int32.toInt_div, hI1]
        · simp only [ok0, ok3, if_true, nl_0, nl_1, nl_2, nl_3, nl_4, nl_5, nl_6, nl_39, nl_49, nl_50, nl_51, nl_52, nl_53, nl_93, nl_130, (wm _ 0).1, (wm _ _).2.1, hw, Option.bind_some]
          simp [-Int32.toInt_add, -Int32.toInt_sub, -Int32.toInt_neg, -Int32.toInt_mul, -Int32.toInt_div, hI1, hw, (wm _ _).2.1, (wm _ 0).1, ok3, nl_0, nl_1, nl_2, nl_3, nl_4, nl_5, nl_6, nl_39, nl_49, nl_50, nl_51, nl_52, nl_53, nl_93, nl_130]
        · refine ⟨fun i hi => ?_, ?_, fun i hi => ?_, ?_, ?_, ?_, ?_⟩
          · match i, hi with
            | 0, _ => simp [-Int32.toInt_add, -Int32.toInt_sub, -Int32.toInt_neg, -Int32.toInt_mul, -Int32.toInt_div, hI1, h1 0 (by decide)]
            | 1, _ => simp [-Int32.toInt_add, -Int32.toInt_sub, -Int32.toInt_neg, -Int32.toInt_mul, -Int32.toInt_div, hI1, h1 1 (by decide)]
            | 2, _ => simp [-Int32.toInt_add, -Int32.toInt_sub, -Int32.toInt_neg, -Int32.toInt_mul, -Int32.toInt_div, hI1, h1 2 (by decide)]
            | 3, _ => simp [-Int32.toInt_add, -Int32.toInt_sub, -Int32.toInt_neg, -Int32.toInt_mul, -Int32.toInt_div, hI1, h1 3 (by decide)]
            | 4, _ => simp [-Int32.toInt_add, -Int32.toInt_sub, -Int32.toInt_neg, -Int32.toInt_mul, -Int32.toInt_div, hI1, h1 4 (by decide)]
          · simp [-Int32.toInt_add, -Int32.toInt_sub, -Int32.toInt_neg, -Int32.toInt_mul, -Int32.toInt_div, hI1]
          · simp [-Int32.toInt_add, -Int32.toInt_sub, -Int32.toInt_neg, -Int32.toInt_mul, -Int32.toInt_div, hI1]; exact h3 i hi
          · simp [-Int32.toInt_add, -Int32.toInt_sub, -Int32.toInt_neg, -Int32.toInt_mul, -Int32.toInt_div, hI1, h4]
          · simp [-Int32.toInt_add, -Int32.toInt_sub, -Int32.toInt_neg, -Int32.toInt_mul, -Int32.toInt_div, hI1]; exact h5
          · simp [-Int32.toInt_add, -Int32.toInt_sub, -Int32.toInt_neg, -Int32.toInt_mul, -Int32.toInt_div, hI1, hd]
          · simp [-Int32.toInt_add, -Int32.toInt_sub, -Int32.toInt_neg, -Int32.toInt_mul, -Int32.toInt_div, hI1, h7]
        · exact s3.tr (sx.pI _ _ _ _ (by simp))
        · exact ((((sm.p0 _ _ _ (by simp)).tr (sm.p0 _ _ _ (by simp))).tr (sm.pI _ _ _ _ (by decide) (by simp))).tr (sm.pI _ _ _ _ (by decide) (by simp))).tr (sm.p0 _ _ _ (by simp))
