/-! DRAWN -/
/-- the clubs that are played, by a way -/
def KCx (x m : am_H) (way : Int32) (kc : Int32 → Int32) : Prop := (way = 0 ∧ ∀ c, cellB c = true → grB m c = false → x.1 15 (93 + c.toNatClampNeg) = kc c) ∨ (way = 1 ∧ ∀ c, cellB c = true → x.1 16 c.toNatClampNeg = kc c)
def KCy (y m : am_H) (kc : Int32 → Int32) : Prop := ∀ c, cellB c = true → grB m c = false → y.1 9 (93 + c.toNatClampNeg) = kc c
theorem clubAt {x m : am_H} {way : Int32} {kc : Int32 → Int32} (hK : KCx x m way kc) {cell : Int32} (hc : cellB cell = true) (hg : grB m cell = false) (k4 : am_H → Int32 → Int32 → Int32 → Option am_H) (shot : Int32) : f_Draws_playHole_21 k4 x way cell shot = f_Draws_playHole_45 k4 x way cell shot (kc cell) := by
  have c1 := cellB_iff.mp hc
  have z0 : (0 : Int32).toInt = 0 := rfl
  have z31 : (31 : Int32).toInt = 31 := rfl
  unfold f_Draws_playHole_21
  rcases hK with ⟨w, h⟩ | ⟨w, h⟩
  · rw [w, if_pos rfl]
    unfold f_Draws_playHole_25
    have e := v_bestClub x hc (n := 3) (by decide)
    have n3 : (3 : Int32).toNatClampNeg = 3 := rfl
    rw [n3, show 31 * 3 + cell.toNatClampNeg = 93 + cell.toNatClampNeg from rfl, h cell hc hg] at e
    rw [e, Option.bind_some]; rfl
  · rw [w, if_neg (by decide)]
    unfold f_Draws_playHole_37
    have e : f_Reck_lawfulClub x cell = some (kc cell) := by
      unfold f_Reck_lawfulClub
      rw [if_neg (by rw [ti_lt]; omega)]
      unfold f_Reck_lawfulClub_4
      rw [if_neg (by rw [ti_le]; omega)]
      unfold f_Reck_lawfulClub_13
      rw [if_pos (ok_of c1), h cell hc]
    rw [e, Option.bind_some]
theorem v_putts2 {x m : am_H} (hR : RH x m) (cell : Int32) : ∃ x2, f_Draws_puttsFrom x cell = some (puS m cell (x.1 18 2), x2) ∧ sx [18] x x2 ∧ x2.1 18 2 = puZ m cell (x.1 18 2) ∧ ∀ i, i ≠ 2 → x2.1 18 i = x.1 18 i := by
  simp only [f_Draws_puttsFrom_33, f_Draws_puttsFrom_29, f_Draws_puttsFrom_26, f_Draws_puttsFrom_19, f_Draws_puttsFrom_13, f_Draws_puttsFrom_11, f_Draws_puttsFrom_8, f_Draws_puttsFrom, f_Hole_isPin_12, f_Hole_isPin_8, f_Hole_isPin, f_Hole_touchNow, hR.pin, puS, puZ]
  by_cases e : cell = m.1 1 49
  · exact ⟨x, by simp only [e, if_true], sx.rf _ _, by simp only [e, if_true], fun _ _ => rfl⟩
  · have ht : (am_pI x 18 2 (zN (x.1 18 2))).1 1 7 = m.1 1 51 := by rw [← hR.touch]; simp [hI1]
    refine ⟨am_pI x 18 2 (zN (x.1 18 2)), ?_, sx.pI _ _ _ _ (by simp), ?_, fun i hi => by simp [hI1, hi]⟩
    · simp only [e, if_false, Bool.false_eq_true, v_Draws_draw x (w := 12) (by decide), Option.bind_some, ht]
      split <;> rfl
    · simp [e, hI1]
theorem l_shots {m : am_H} (hV : VM m) {way nw what : Int32} {kc : Int32 → Int32} (hcl : ∀ c, cellB c = true → grB m c = false → clubB m (kc c) = true) (k71 : am_H → Int32 → Int32 → Int32 → Int32 → Int32 → Option (Int32 × am_H)) (i : Int32) : ∀ (k fx fy : Nat) (x y : am_H) (cell shot st wet : Int32), RH x m → KCx x m way kc → KCy y m kc → y.1 1 = m.1 1 → y.1 0 6 = m.1 0 6 → 0 ≤ shot.toInt → shot.toInt + k = 12 → k < fx → k < fy → x.1 18 2 = y.1 0 21 → x.1 18 3 = st → x.1 18 4 = wet → cellB cell = true →
    ∃ x2 y2 cell2 st2 wet2, f_Draws_playHole_4_l fx x way cell shot = f_Draws_playHole_110 x2 cell2 ∧ f_Model_drawn_86_l k71 fy y nw what st wet i cell shot = f_Model_drawn_182 k71 y2 nw what st2 wet2 i cell2 ∧ sx [18] x x2 ∧ sm [21] [] y y2 ∧ x2.1 18 2 = y2.1 0 21 ∧ x2.1 18 3 = st2 ∧ x2.1 18 4 = wet2 ∧ cellB cell2 = true := by
  have z12 : (12 : Int32).toInt = 12 := rfl
  intro k
  induction k with
  | zero =>
    intro fx fy x y cell shot st wet hR hKx hKy e1 e6 h0 hk hfx hfy hz hs hw hc
    obtain ⟨g, rfl⟩ : ∃ g, fx = g + 1 := ⟨fx - 1, by omega⟩
    obtain ⟨g2, rfl⟩ : ∃ g, fy = g + 1 := ⟨fy - 1, by omega⟩
    refine ⟨x, y, cell, st, wet, ?_, ?_, sx.rf _ _, sm.rf _ _ _, hz, hs, hw, hc⟩
    · show f_Draws_playHole_4 _ x way cell shot = _
      unfold f_Draws_playHole_4
      rw [if_pos (by rw [ti_le]; omega)]
    · show f_Model_drawn_86 k71 _ y nw what st wet i cell shot = _
      unfold f_Model_drawn_86
      rw [if_pos (by rw [ti_le]; omega)]
  | succ k ih =>
    intro fx fy x y cell shot st wet hR hKx hKy e1 e6 h0 hk hfx hfy hz hs hw hc
    obtain ⟨g, rfl⟩ : ∃ g, fx = g + 1 := ⟨fx - 1, by omega⟩
    obtain ⟨g2, rfl⟩ : ∃ g, fy = g + 1 := ⟨fy - 1, by omega⟩
    have hVy := hV.row e1 e6
    have c1 := cellB_iff.mp hc
    have ts : (shot + 1).toInt = shot.toInt + 1 := by
      have z1 : (1 : Int32).toInt = 1 := rfl
      rw [ti_add, z1]; omega
    have hx : f_Draws_playHole_4_l (g + 1) x way cell shot = f_Draws_playHole_18 (f_Draws_playHole_4_l g) x way cell shot (grB m cell) := by
      show f_Draws_playHole_4 _ x way cell shot = _
      unfold f_Draws_playHole_4
      rw [if_neg (by rw [ti_le]; omega)]
      unfold f_Draws_playHole_10
      rw [v_Hole_isGreen hR, hc, Option.bind_some, Bool.true_and]
    have hy : f_Model_drawn_86_l k71 (g2 + 1) y nw what st wet i cell shot = f_Model_drawn_99 k71 (f_Model_drawn_86_l k71 g2) y nw what st wet i cell shot (grB m cell) := by
      show f_Model_drawn_86 k71 _ y nw what st wet i cell shot = _
      unfold f_Model_drawn_86
      rw [if_neg (by rw [ti_le]; omega)]
      unfold f_Model_drawn_93
      rw [v_Model_isGreen y hc, grB_c e1, Option.bind_some]
    rw [hx, hy]
    unfold f_Draws_playHole_18 f_Model_drawn_99
    cases hg : grB m cell with
    | true => exact ⟨x, y, cell, st, wet, by rw [if_pos rfl], by rw [if_pos rfl], sx.rf _ _, sm.rf _ _ _, hz, hs, hw, hc⟩
    | false =>
      rw [if_neg Bool.false_ne_true, if_neg Bool.false_ne_true, clubAt hKx hc hg]
      have hclub := hcl cell hc hg
      have hclub2 : clubB y (kc cell) = true := by rw [clubB_c e6]; exact hclub
      have f1 := v_Draws_fall hR hV hc hclub
      have f2 := v_Model_drawnDown hVy hc hclub2
      have ef : fallS y = fallS m := by
        funext a b c
        unfold fallS downS aimS goesS caS spS
        rw [e1]
      rw [ef, ← hz] at f2
      have t93 : (93 + cell).toInt = (93 + cell.toNatClampNeg : Nat) := by
        have z93 : (93 : Int32).toInt = 93 := rfl
        have := ti_mk c1.1
        rw [ti_add, z93]; omega
      have hkc := hKy cell hc hg
      unfold f_Draws_playHole_45 f_Model_drawn_102
      rw [f1, Option.bind_some, if_pos (ok_of (by have := cellB_nat hc; omega)), i_nat t93, hkc, f2, Option.bind_some]
      have hfc := fallS_cell m cell (kc cell) (x.1 18 2)
      generalize fallS m cell (kc cell) (x.1 18 2) = fl at *
      have sx1 : sx [18] x (am_pI x 18 2 (zN (x.1 18 2))) := sx.pI _ _ _ _ (by simp)
      have sy1 : sm [21] [] y (am_pI y 0 21 (zN (x.1 18 2))) := sm.p0 _ _ _ (by simp)
      have a3 : (am_pI x 18 2 (zN (x.1 18 2))).1 18 3 = st := by rw [← hs]; simp [hI1]
      have a4 : (am_pI x 18 2 (zN (x.1 18 2))).1 18 4 = wet := by rw [← hw]; simp [hI1]
      have a2 : (am_pI x 18 2 (zN (x.1 18 2))).1 18 2 = zN (x.1 18 2) := by simp [hI1]
      have b2 : (am_pI y 0 21 (zN (x.1 18 2))).1 0 21 = zN (x.1 18 2) := by simp [hI1]
      generalize am_pI x 18 2 (zN (x.1 18 2)) = x1 at *
      generalize am_pI y 0 21 (zN (x.1 18 2)) = y1 at *
      have g1 : y1.1 1 = m.1 1 := ((sy1.2.2 1 (by decide) (by simp)).1).trans e1
      have g6 : y1.1 0 6 = m.1 0 6 := (sy1.1 6 (by simp)).trans e6
      have hWy : f_Model_isWater y1 fl = some (waB m fl) := by
        rw [v_Model_isWater y1 hfc]
        unfold waB
        rw [g1]
      have sx2 : sx [18] x (am_pI x1 18 3 (x1.1 18 3 + 1)) := sx1.tr (sx.pI _ _ _ _ (by simp))
      have hWx := v_Hole_isWater (hR.fx sx2 (by decide)) fl
      rw [hfc, Bool.true_and] at hWx
      have hKx' : ∀ w, sx [18] x w → KCx w m way kc := by
        intro w sw
        unfold KCx
        rw [(sw 15 (by decide)).1, (sw 16 (by decide)).1]; exact hKx
      have hKy' : KCy y1 m kc := by
        unfold KCy
        rw [(sy1.2.2 9 (by decide) (by simp)).1]; exact hKy
      have hgo : f_Draws_playHole_54 (f_Draws_playHole_4_l g) x1 way cell shot fl = f_Draws_playHole_75 (f_Draws_playHole_4_l g) (am_pI x1 18 3 (x1.1 18 3 + 1)) way cell shot fl (waB m fl) := by
        unfold f_Draws_playHole_54
        rw [hWx, Option.bind_some]
      have hgy : f_Model_drawn_118 k71 (f_Model_drawn_86_l k71 g2) y1 nw what st wet i cell shot fl = f_Model_drawn_86_l k71 g2 y1 nw what (st + (if waB m fl = true then 2 else 1)) (wet + (if waB m fl = true then 1 else 0)) i (if waB m fl = true then cell else fl) (shot + 1) := by
        unfold f_Model_drawn_118
        rw [hWy, Option.bind_some]
        unfold f_Model_drawn_128
        cases hwt : waB m fl with
        | true =>
          rw [if_pos rfl]
          unfold f_Model_drawn_131 f_Model_drawn_136
          rw [hWy, hwt, Option.bind_some]
          unfold f_Model_drawn_147
          rw [if_pos rfl]
          unfold f_Model_drawn_150 f_Model_drawn_155
          rw [hWy, hwt, Option.bind_some]
          rfl
        | false =>
          rw [if_neg Bool.false_ne_true]
          unfold f_Model_drawn_135 f_Model_drawn_136
          rw [hWy, hwt, Option.bind_some]
          unfold f_Model_drawn_147
          rw [if_neg Bool.false_ne_true]
          unfold f_Model_drawn_154 f_Model_drawn_155
          rw [hWy, hwt, Option.bind_some]
          rfl
      show ∃ x2 y2 cell2 st2 wet2, f_Draws_playHole_54 (f_Draws_playHole_4_l g) x1 way cell shot fl = _ ∧ f_Model_drawn_118 k71 (f_Model_drawn_86_l k71 g2) y1 nw what st wet i cell shot fl = _ ∧ _
      rw [hgo, hgy]
      have p2 : (am_pI x1 18 3 (x1.1 18 3 + 1)).1 18 2 = zN (x.1 18 2) := by rw [← a2]; simp [hI1]
      have p3 : (am_pI x1 18 3 (x1.1 18 3 + 1)).1 18 3 = st + 1 := by rw [← a3]; simp [hI1]
      have p4 : (am_pI x1 18 3 (x1.1 18 3 + 1)).1 18 4 = wet := by rw [← a4]; simp [hI1]
      unfold f_Draws_playHole_75
      cases hwt : waB m fl with
      | true =>
        rw [if_pos rfl, if_pos rfl, if_pos rfl, if_pos rfl]
        unfold f_Draws_playHole_78 f_Draws_playHole_104
        have sx3 : sx [18] x (am_pI (am_pI (am_pI x1 18 3 (x1.1 18 3 + 1)) 18 3 ((am_pI x1 18 3 (x1.1 18 3 + 1)).1 18 3 + 1)) 18 4 ((am_pI (am_pI x1 18 3 (x1.1 18 3 + 1)) 18 3 ((am_pI x1 18 3 (x1.1 18 3 + 1)).1 18 3 + 1)).1 18 4 + 1)) := (sx2.tr (sx.pI _ _ _ _ (by simp))).tr (sx.pI _ _ _ _ (by simp))
        have r2 : (am_pI (am_pI (am_pI x1 18 3 (x1.1 18 3 + 1)) 18 3 ((am_pI x1 18 3 (x1.1 18 3 + 1)).1 18 3 + 1)) 18 4 ((am_pI (am_pI x1 18 3 (x1.1 18 3 + 1)) 18 3 ((am_pI x1 18 3 (x1.1 18 3 + 1)).1 18 3 + 1)).1 18 4 + 1)).1 18 2 = zN (x.1 18 2) := by rw [← p2]; simp [hI1]
        have r3 : (am_pI (am_pI (am_pI x1 18 3 (x1.1 18 3 + 1)) 18 3 ((am_pI x1 18 3 (x1.1 18 3 + 1)).1 18 3 + 1)) 18 4 ((am_pI (am_pI x1 18 3 (x1.1 18 3 + 1)) 18 3 ((am_pI x1 18 3 (x1.1 18 3 + 1)).1 18 3 + 1)).1 18 4 + 1)).1 18 3 = st + 2 := by
          rw [← i32_11, ← p3]; simp [hI1]
        have r4 : (am_pI (am_pI (am_pI x1 18 3 (x1.1 18 3 + 1)) 18 3 ((am_pI x1 18 3 (x1.1 18 3 + 1)).1 18 3 + 1)) 18 4 ((am_pI (am_pI x1 18 3 (x1.1 18 3 + 1)) 18 3 ((am_pI x1 18 3 (x1.1 18 3 + 1)).1 18 3 + 1)).1 18 4 + 1)).1 18 4 = wet + 1 := by rw [← p4]; simp [hI1]
        generalize am_pI (am_pI (am_pI x1 18 3 (x1.1 18 3 + 1)) 18 3 ((am_pI x1 18 3 (x1.1 18 3 + 1)).1 18 3 + 1)) 18 4 ((am_pI (am_pI x1 18 3 (x1.1 18 3 + 1)) 18 3 ((am_pI x1 18 3 (x1.1 18 3 + 1)).1 18 3 + 1)).1 18 4 + 1) = w at *
        obtain ⟨x2, y2, cell2, st2, wet2, i1, i2, i3, i4, i5⟩ := ih g g2 w y1 cell (shot + 1) (st + 2) (wet + 1) (hR.fx sx3 (by decide)) (hKx' w sx3) hKy' g1 g6 (by omega) (by omega) (by omega) (by omega) (by rw [r2, b2]) r3 r4 hc
        exact ⟨x2, y2, cell2, st2, wet2, i1, i2, sx3.tr i3, sy1.tr i4, i5⟩
      | false =>
        rw [if_neg Bool.false_ne_true, if_neg Bool.false_ne_true, if_neg Bool.false_ne_true, if_neg Bool.false_ne_true]
        unfold f_Draws_playHole_101 f_Draws_playHole_104
        generalize am_pI x1 18 3 (x1.1 18 3 + 1) = w at *
        rw [add_00 wet]
        obtain ⟨x2, y2, cell2, st2, wet2, i1, i2, i3, i4, i5⟩ := ih g g2 w y1 fl (shot + 1) (st + 1) wet (hR.fx sx2 (by decide)) (hKx' w sx2) hKy' g1 g6 (by omega) (by omega) (by omega) (by omega) (by rw [p2, b2]) p3 p4 hfc
        exact ⟨x2, y2, cell2, st2, wet2, i1, i2, sx2.tr i3, sy1.tr i4, i5⟩
theorem l_holes {m : am_H} (hV : VM m) {way nw what : Int32} {kc : Int32 → Int32} (hcl : ∀ c, cellB c = true → grB m c = false → clubB m (kc c) = true) : ∀ (k fx fy : Nat) (x y : am_H) (i st wet : Int32), RH x m → KCx x m way kc → KCy y m kc → y.1 1 = m.1 1 → y.1 0 6 = m.1 0 6 → 0 ≤ i.toInt → i.toInt + k = (nw / 10).toInt → k < fx → k < fy → x.1 18 2 = y.1 0 21 → x.1 18 3 = st → x.1 18 4 = wet →
    ∃ x2 y2 st2 wet2, f_Draws_playHoles_18_l fx x (nw / 10) way i = some x2 ∧ f_Model_drawn_71_l fy y nw what st wet i = f_Model_drawn_212 y2 what st2 wet2 ∧ sx [18] x x2 ∧ sm [21] [] y y2 ∧ x2.1 18 3 = st2 ∧ x2.1 18 4 = wet2 := by
  intro k
  induction k with
  | zero =>
    intro fx fy x y i st wet hR hKx hKy e1 e6 h0 hk hfx hfy hz hs hw
    obtain ⟨g, rfl⟩ : ∃ g, fx = g + 1 := ⟨fx - 1, by omega⟩
    obtain ⟨g2, rfl⟩ : ∃ g, fy = g + 1 := ⟨fy - 1, by omega⟩
    refine ⟨x, y, st, wet, ?_, ?_, sx.rf _ _, sm.rf _ _ _, hs, hw⟩
    · show f_Draws_playHoles_18 _ x (nw / 10) way i = _
      unfold f_Draws_playHoles_18
      rw [if_pos (by rw [ti_le]; omega)]; rfl
    · show f_Model_drawn_71 _ y nw what st wet i = _
      unfold f_Model_drawn_71
      rw [if_pos (by rw [ti_le]; omega)]
  | succ k ih =>
    intro fx fy x y i st wet hR hKx hKy e1 e6 h0 hk hfx hfy hz hs hw
    obtain ⟨g, rfl⟩ : ∃ g, fx = g + 1 := ⟨fx - 1, by omega⟩
    obtain ⟨g2, rfl⟩ : ∃ g, fy = g + 1 := ⟨fy - 1, by omega⟩
    have ts : (i + 1).toInt = i.toInt + 1 := by
      have z1 : (1 : Int32).toInt = 1 := rfl
      have := ti_hi (nw / 10)
      rw [ti_add, z1]; omega
    obtain ⟨x1, y1, cell2, st2, wet2, a1, a2, a3, a4, a5, a6, a7, a8⟩ := l_shots (nw := nw) (what := what) hV hcl (f_Model_drawn_71_l g2) i 12 am_fu am_fu x y 0 0 st wet hR hKx hKy e1 e6 (by decide) (by decide) (by unfold am_fu; omega) (by unfold am_fu; omega) hz hs hw (by decide)
    have hR1 := hR.fx a3 (by decide)
    have g1 : y1.1 1 = m.1 1 := ((a4.2.2 1 (by decide) (by simp)).1).trans e1
    have g6 : y1.1 0 6 = m.1 0 6 := (a4.1 6 (by simp)).trans e6
    have hKx' : ∀ w, sx [18] x w → KCx w m way kc := by
      intro w sw
      unfold KCx
      rw [(sw 15 (by decide)).1, (sw 16 (by decide)).1]; exact hKx
    have hKy' : ∀ w, sm [21] [] y w → KCy w m kc := by
      intro w sw
      unfold KCy
      rw [(sw.2.2 9 (by decide) (by simp)).1]; exact hKy
    have hgx : f_Draws_playHoles_18_l (g + 1) x (nw / 10) way i = (f_Draws_playHole_110 x1 cell2).bind fun p => f_Draws_playHoles_18_l g p (nw / 10) way (i + 1) := by
      show f_Draws_playHoles_18 _ x (nw / 10) way i = _
      unfold f_Draws_playHoles_18
      rw [if_neg (by rw [ti_le]; omega)]
      unfold f_Draws_playHoles_24 f_Draws_playHole
      rw [a1]; rfl
    have hgy : f_Model_drawn_71_l (g2 + 1) y nw what st wet i = f_Model_drawn_182 (f_Model_drawn_71_l g2) y1 nw what st2 wet2 i cell2 := by
      show f_Model_drawn_71 _ y nw what st wet i = _
      unfold f_Model_drawn_71
      rw [if_neg (by rw [ti_le]; omega)]
      unfold f_Model_drawn_80
      exact a2
    rw [hgx, hgy]
    unfold f_Draws_playHole_110 f_Model_drawn_182
    rw [v_Hole_isGreen hR1, a8, Bool.true_and, v_Model_isGreen y1 a8, grB_c g1, Option.bind_some, Option.bind_some]
    unfold f_Draws_playHole_123 f_Model_drawn_190
    cases hg : grB m cell2 with
    | true =>
      rw [if_pos rfl, if_pos rfl]
      obtain ⟨x2, b1, b2, b3, b4⟩ := v_putts2 hR1 cell2
      obtain ⟨y2, d1, d2, d3⟩ := v_Model_drawnPutts y1 cell2
      have ep : puS y1 = puS m := by funext a b; unfold puS; rw [g1]
      have ez : puZ y1 = puZ m := by funext a b; unfold puZ; rw [g1]
      rw [ep, ← a5] at d1
      rw [ez, ← a5] at d3
      unfold f_Draws_playHole_126 f_Model_drawn_193
      rw [b1, d1, Option.bind_some, Option.bind_some]
      have sxw : sx [18] x (am_pI x2 18 3 (x1.1 18 3 + puS m cell2 (x1.1 18 2))) := (a3.tr b2).tr (sx.pI _ _ _ _ (by simp))
      have syw : sm [21] [] y y2 := a4.tr d2
      have q2 : (am_pI x2 18 3 (x1.1 18 3 + puS m cell2 (x1.1 18 2))).1 18 2 = y2.1 0 21 := by rw [d3, ← b3]; simp [hI1]
      have q3 : (am_pI x2 18 3 (x1.1 18 3 + puS m cell2 (x1.1 18 2))).1 18 3 = st2 + puS m cell2 (x1.1 18 2) := by rw [← a6]; simp [hI1]
      have q4 : (am_pI x2 18 3 (x1.1 18 3 + puS m cell2 (x1.1 18 2))).1 18 4 = x2.1 18 4 := by simp [hI1]
      have hw4 : x2.1 18 4 = wet2 := by rw [b4 4 (by decide)]; exact a7
      have hend : ((f_Draws_playHole_131 x2 (puS m cell2 (x1.1 18 2)) (x1.1 18 3)).bind fun p => f_Draws_playHoles_18_l g p (nw / 10) way (i + 1)) = f_Draws_playHoles_18_l g (am_pI x2 18 3 (x1.1 18 3 + puS m cell2 (x1.1 18 2))) (nw / 10) way (i + 1) := rfl
      rw [hend]
      unfold f_Model_drawn_199 f_Model_drawn_203
      obtain ⟨x3, y3, st3, wet3, i1, i2, i3, i4, i5⟩ := ih g g2 (am_pI x2 18 3 (x1.1 18 3 + puS m cell2 (x1.1 18 2))) y2 (i + 1) (st2 + puS m cell2 (x1.1 18 2)) wet2 (hR.fx sxw (by decide)) (hKx' _ sxw) (hKy' _ syw) ((syw.2.2 1 (by decide) (by simp)).1.trans e1) ((syw.1 6 (by simp)).trans e6) (by omega) (by omega) (by omega) (by omega) q2 q3 (by rw [q4]; exact hw4)
      exact ⟨x3, y3, st3, wet3, i1, i2, sxw.tr i3, syw.tr i4, i5⟩
    | false =>
      rw [if_neg Bool.false_ne_true, if_neg Bool.false_ne_true]
      have sxw : sx [18] x (am_pI x1 18 3 (x1.1 18 3 + 5)) := a3.tr (sx.pI _ _ _ _ (by simp))
      have q2 : (am_pI x1 18 3 (x1.1 18 3 + 5)).1 18 2 = y1.1 0 21 := by rw [← a5]; simp [hI1]
      have q3 : (am_pI x1 18 3 (x1.1 18 3 + 5)).1 18 3 = st2 + 5 := by rw [← a6]; simp [hI1]
      have q4 : (am_pI x1 18 3 (x1.1 18 3 + 5)).1 18 4 = wet2 := by rw [← a7]; simp [hI1]
      have hend : ((f_Draws_playHole_134 x1 (x1.1 18 3)).bind fun p => f_Draws_playHoles_18_l g p (nw / 10) way (i + 1)) = f_Draws_playHoles_18_l g (am_pI x1 18 3 (x1.1 18 3 + 5)) (nw / 10) way (i + 1) := rfl
      rw [hend]
      unfold f_Model_drawn_202 f_Model_drawn_203
      obtain ⟨x3, y3, st3, wet3, i1, i2, i3, i4, i5⟩ := ih g g2 (am_pI x1 18 3 (x1.1 18 3 + 5)) y1 (i + 1) (st2 + 5) wet2 (hR.fx sxw (by decide)) (hKx' _ sxw) (hKy' _ a4) g1 g6 (by omega) (by omega) (by omega) (by omega) q2 q3 q4
      exact ⟨x3, y3, st3, wet3, i1, i2, sxw.tr i3, a4.tr i4, i5⟩
