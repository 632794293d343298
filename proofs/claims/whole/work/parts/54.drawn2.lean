/-! DRAWN: both -/
theorem l_findC {m : am_H} (hV : VM m) : ∀ (k fu : Nat) (x : am_H) (i : Int32) (j : Nat), RH x m → KB x m → i.toInt = j → j + k = 31 → k < fu → (∀ c, c < j → ¬ x.2 13 (93 + c) = 0) →
    ∃ x2, f_Reck_findClubs_12_l fu x 3 i = some x2 ∧ KB x2 m ∧ sx [12, 13, 15] x x2 ∧ (∀ i, i ≠ 6 → x2.1 12 i = x.1 12 i) ∧ x2.2 12 = x.2 12 ∧ ∀ c, c < 31 → ¬ x2.2 13 (93 + c) = 0 := by
  have z31 : (31 : Int32).toInt = 31 := rfl
  intro k
  induction k with
  | zero =>
    intro fu x i j hR hK hi hk hf hd
    obtain ⟨g, rfl⟩ : ∃ g, fu = g + 1 := ⟨fu - 1, by omega⟩
    refine ⟨x, ?_, hK, sx.rf _ _, fun _ _ => rfl, rfl, fun c hc => hd c (by omega)⟩
    show f_Reck_findClubs_12 _ x 3 i = _
    unfold f_Reck_findClubs_12
    rw [if_pos (by rw [ti_le]; omega)]; rfl
  | succ k ih =>
    intro fu x i j hR hK hi hk hf hd
    obtain ⟨g, rfl⟩ : ∃ g, fu = g + 1 := ⟨fu - 1, by omega⟩
    have hc : cellB i = true := cellB_iff.mpr (by omega)
    obtain ⟨x1, a1, a2, a3, a4, a5, a6, a7⟩ := v_Reck_mean0m hR hV hK hc (n := 3) (by decide)
    have n3 : (3 : Int32).toNatClampNeg = 3 := rfl
    rw [n3, i_nat hi] at a6
    obtain ⟨x2, b1, b2, b3, b4, b5, b6⟩ := ih g x1 (i + 1) (j + 1) (hR.fx a3 (by decide)) a2 (i_next hi (by omega)) (by omega) (by omega) (fun c hcj => by
      by_cases q : c = j
      · rw [q, show 93 + j = 31 * 3 + j from rfl, a6]
        have := rowG_b hV (okF_B hV) 3 (by omega) i hc
        intro z
        rw [z] at this
        have y0 : (0 : Int64).toInt = 0 := rfl
        omega
      · exact a7 _ (by omega) (hd c (by omega)))
    refine ⟨x2, ?_, b2, a3.tr b3, fun i hi => by rw [b4 i hi, a4 i hi], by rw [b5, a5], b6⟩
    show f_Reck_findClubs_12 _ x 3 i = _
    unfold f_Reck_findClubs_12
    rw [if_neg (by rw [ti_le]; omega)]
    unfold f_Reck_findClubs_18
    rw [a1, Option.bind_some]
    exact b1
/-- what stays, and the clubs that are played -/
theorem v_findClubs {x m : am_H} {L : Option ((Nat → Int32) → Int32)} (hL : RTL x m L) (hR : RH x m) (hV : VM m) (hu : x.1 12 11 = 0) (hB : KB x m) (hK : KLw x m L) (h0 : ¬ m.1 0 6 = 0) {way : Int32} (hw : way = 0 ∨ way = 1) :
    ∃ x2 m2 kc, f_Reck_findClubs x 3 way = some x2 ∧ f_Model_fills m way = some m2 ∧ KCx x2 m way kc ∧ KCy m2 m kc ∧ (∀ c, cellB c = true → grB m c = false → clubB m (kc c) = true) ∧ KB x2 m ∧ KLw x2 m L ∧ sx [10, 11, 12, 13, 15, 16] x x2 ∧ (∀ i, i ≠ 6 → i ≠ 8 → x2.1 12 i = x.1 12 i) ∧ x2.2 12 = x.2 12 ∧ sm [11, 12, 13, 14, 15] [7, 8, 9, 10] m m2 := by
  have clj : ∀ (g : Nat → Int32 → Int32) (c : Int32), cellB c = true → grB m c = false → clJ m g (93 + c.toNatClampNeg) = g 3 c := by
    intro g c hc hg
    have e := clJ_at (m := m) (g := g) (N := 3) hc
    rw [show 31 * 3 + c.toNatClampNeg = 93 + c.toNatClampNeg from rfl] at e
    rw [e, if_neg (by rintro (z | z | z); · rw [hg] at z; cases z
                      · exact absurd z (by decide)
                      · exact h0 z)]
  rcases hw with w | w
  · subst w
    obtain ⟨m2, q1, q2, q3, q4⟩ := v_Model_fills0 hV
    obtain ⟨x2, a1, a2, a3, a4, a5, a6⟩ := l_findC hV 31 am_fu x 0 0 hR hB (by decide) (by omega) (by unfold am_fu; omega) (fun c hc => by omega)
    refine ⟨x2, m2, gB m 3, ?_, q1, Or.inl ⟨rfl, fun c hc hg => ?_⟩, fun c hc hg => ?_, fun c hc hg => ?_, a2, ?_, a3.mono (by simp), fun i h1 _ => a4 i h1, a5, q2⟩
    · unfold f_Reck_findClubs
      rw [if_neg (by decide)]
      unfold f_Reck_findClubs_10
      exact a1
    · have hcn := cellB_nat hc
      obtain ⟨g1, g2⟩ := cellJ_at (N := 3) hc
      have e := a2.2.2 (31 * 3 + c.toNatClampNeg) (by omega) (a6 _ hcn) (by
        rw [g1, g2, hg]
        rintro (z | z | z)
        · cases z
        · exact absurd z (by decide)
        · exact h0 z)
      rw [g1, g2] at e
      exact e
    · have hcn := cellB_nat hc
      rw [(q4 _ (by omega)).2, clj _ c hc hg]
    · exact (bestF_b hV h0 hc (by omega) (rowG_b hV (okF_B hV) 2 (by omega))).1
    · unfold KLw KT
      rw [(a3 14 (by decide)).2, (a3 16 (by decide)).1, a4 7 (by decide), a4 8 (by decide)]
      exact hK
  · subst w
    obtain ⟨m2, q1, q2, q3, q4⟩ := v_Model_fills1 hL hV
    obtain ⟨x2, a1, a2, a3, a4, a5, a6⟩ := v_findLawful hL hR hV (tk := fun c => tkX L m 0 c 0) (fun c => by rw [hu]) hK
    refine ⟨x2, m2, fun c => tkX L m 0 c 0, ?_, q1, Or.inr ⟨rfl, fun c hc => a6.2.2 a5 h0 c hc⟩, fun c hc hg => ?_, fun c hc hg => tkX_club hV h0 L 0 c 0, ?_, a6, a2.mono (by simp), fun i _ h2 => a3 i h2, a4, q2⟩
    · unfold f_Reck_findClubs
      rw [if_pos rfl]
      unfold f_Reck_findClubs_5
      rw [a1, Option.bind_some]; rfl
    · have hcn := cellB_nat hc
      rw [(q4 _ (by omega)).2, clj _ c hc hg]
    · exact hB.fx (a3 6 (by decide)) (fun j _ => by rw [(a2 13 (by decide)).2]) (fun j _ => by rw [(a2 15 (by decide)).1])
def RDw (x m : am_H) (L : Option ((Nat → Int32) → Int32)) (fx fm : Option (Int32 × am_H)) : Prop := ∃ r x2 m2, fx = some (r, x2) ∧ fm = some (r, m2) ∧ KB x2 m2 ∧ KLw x2 m2 L ∧ sx [10, 11, 12, 13, 15, 16, 18] x x2 ∧ (∀ i, i ≠ 6 → i ≠ 8 → x2.1 12 i = x.1 12 i) ∧ x2.2 12 = x.2 12 ∧ sm [11, 12, 13, 14, 15, 21] [7, 8, 9, 10] m m2
theorem RDw.no {x m : am_H} {L : Option ((Nat → Int32) → Int32)} (hB : KB x m) (hK : KLw x m L) (r : Int32) : RDw x m L (some (r, x)) (some (r, m)) :=
  ⟨r, x, m, rfl, rfl, hB, hK, sx.rf _ _, fun _ _ _ => rfl, rfl, sm.rf _ _ _⟩
theorem E_drawn {x m : am_H} {L : Option ((Nat → Int32) → Int32)} (hL : RTL x m L) (hR : RH x m) (hV : VM m) (hu : x.1 12 11 = 0) (hB : KB x m) (hK : KLw x m L) (seed nw what : Int32) : RDw x m L (f_Club_drawn x seed nw what) (f_Model_drawn m seed nw what) := by
  have z0 : (0 : Int32).toInt = 0 := rfl
  have z1 : (1 : Int32).toInt = 1 := rfl
  have z10 : (10 : Int32).toInt = 10 := rfl
  have z20 : (20 : Int32).toInt = 20 := rfl
  have y0 : (0 : Int64).toInt = 0 := rfl
  have y1 : (1 : Int64).toInt = 1 := rfl
  have y20 : (20 : Int64).toInt = 20 := rfl
  have h39 : ∀ w h, f_Club_drawn_39 x seed what h w = some (-1, x) := fun _ _ => rfl
  have h37 : f_Model_drawn_37 m = some (-1, m) := rfl
  unfold f_Club_drawn f_Model_drawn
  by_cases b1 : nw < 0
  · rw [if_pos b1, if_pos b1, h39, h37]; exact RDw.no hB hK _
  · rw [if_neg b1, if_neg b1]; rw [ti_lt] at b1
    have hd := ti_div nw (b := 10) (by decide)
    rw [if_pos (by omega), z10] at hd
    have hnw := ti_hi nw
    have hm1 : (nw / 10 * 10).toInt = nw.toInt / 10 * 10 := by rw [ti_mul, hd, z10]; omega
    have hr : (nw - nw / 10 * 10).toInt = nw.toInt - nw.toInt / 10 * 10 := by rw [ti_sub, hm1]; omega
    unfold f_Club_drawn_16 f_Model_drawn_4 f_Model_drawn_16
    rw [v_Model_within32, y1, y20]
    by_cases hh : 1 ≤ (nw / 10).toInt ∧ (nw / 10).toInt ≤ 20
    · rw [if_neg (by rw [ti_lt]; omega), if_pos (decide_eq_true hh)]
      unfold f_Club_drawn_22 f_Model_drawn_19
      rw [if_neg (by rw [ti_lt]; omega)]
      unfold f_Club_drawn_29
      by_cases hw1 : 1 < nw - nw / 10 * 10
      · rw [if_pos hw1, if_pos hw1, h39, h37]; exact RDw.no hB hK _
      · rw [if_neg hw1, if_neg hw1]
        have hw : nw - nw / 10 * 10 = 0 ∨ nw - nw / 10 * 10 = 1 := by
          rw [ti_lt] at hw1
          rw [ti_eq, ti_eq]; omega
        generalize hway : nw - nw / 10 * 10 = way at *
        have h35 : f_Club_drawn_35 x seed what (nw / 10) way = f_Club_drawn_47 x seed what (nw / 10) way := by
          unfold f_Club_drawn_35 f_Club_drawn_40; rw [if_neg (by decide)]
        rw [h35]
        unfold f_Club_drawn_47 f_Model_drawn_27 f_Model_drawn_34
        rw [v_Model_within32, y0, y1]
        by_cases hp : 0 ≤ what.toInt ∧ what.toInt ≤ 1
        · rw [if_neg (by rw [ti_lt]; omega), if_pos (decide_eq_true hp)]
          unfold f_Club_drawn_51 f_Model_drawn_39
          rw [if_pos (by rw [ti_le]; omega)]
          unfold f_Club_drawn_58 f_Club_drawn_65
          by_cases h0 : m.1 0 6 = 0
          · have : f_Hole_hasNoClubs x = true := by simp only [f_Hole_hasNoClubs_11, f_Hole_hasNoClubs_7, f_Hole_hasNoClubs, hR.2, h0, if_true]
            rw [this, if_pos rfl, if_pos h0]; exact RDw.no hB hK _
          · have hn : f_Hole_hasNoClubs x = false := by simp only [f_Hole_hasNoClubs_11, f_Hole_hasNoClubs_7, f_Hole_hasNoClubs, hR.2, h0, if_false]
            rw [hn, if_neg Bool.false_ne_true, if_neg h0]
            obtain ⟨x1, m1, kc, a1, a2, a3, a4, a5, a6, a7, a8, a9, a10, a11⟩ := v_findClubs hL hR hV hu hB hK h0 hw
            have e1 := (a11.2.2 1 (by decide) (by simp)).1
            have e6 : m1.1 0 6 = m.1 0 6 := a11.1 6 (by simp)
            have sxp : sx [18] x1 (am_pI (am_pI (am_pI x1 18 2 seed) 18 3 0) 18 4 0) := ((sx.pI _ _ _ _ (by simp)).tr (sx.pI _ _ _ _ (by simp))).tr (sx.pI _ _ _ _ (by simp))
            have smp : sm [21] [] m1 (am_pI m1 0 21 seed) := sm.p0 _ _ _ (by simp)
            obtain ⟨x2, m2, st, wet, b2, b3, b4, b5, b6, b7⟩ := l_holes (nw := nw) (what := what) hV a5 (nw / 10).toInt.toNat am_fu am_fu (am_pI (am_pI (am_pI x1 18 2 seed) 18 3 0) 18 4 0) (am_pI m1 0 21 seed) 0 0 0
              ((hR.fx a8 (by decide)).fx sxp (by decide))
              (by unfold KCx; rw [(sxp 15 (by decide)).1, (sxp 16 (by decide)).1]; exact a3)
              (by unfold KCy; rw [(smp.2.2 9 (by decide) (by simp)).1]; exact a4)
              ((smp.2.2 1 (by decide) (by simp)).1.trans e1) ((smp.1 6 (by simp)).trans e6) (by decide) (by omega) (by unfold am_fu; omega) (by unfold am_fu; omega) (by simp [hI1]) (by simp [hI1]) (by simp [hI1])
            have hs18 := sxp.tr b4
            have f12 := hs18 12 (by decide)
            have hm : sm [11, 12, 13, 14, 15, 21] [7, 8, 9, 10] m m2 := ((a11.mono (by simp) (by simp)).tr (smp.mono (by simp) (by simp))).tr (b5.mono (by simp) (by simp))
            have g1 := (hm.2.2 1 (by decide) (by simp)).1
            have g6 : m2.1 0 6 = m.1 0 6 := hm.1 6 (by simp)
            refine ⟨if what = 0 then st else wet, x2, m2, ?_, ?_, ?_, ?_, (a8.mono (by simp)).tr (hs18.mono (by simp)), fun i h1 h2 => by rw [f12.1, a9 i h1 h2], by rw [f12.2, a10], hm⟩
            · unfold f_Club_drawn_71
              rw [a1, Option.bind_some]
              unfold f_Club_drawn_81 f_Draws_playHoles f_Draws_begin f_Draws_playHoles_5
              rw [b2, Option.bind_some]
              unfold f_Club_drawn_93
              by_cases p : what = 0
              · rw [if_pos p, if_pos p]
                unfold f_Club_drawn_97 f_Draws_strokesPlayed
                rw [b6]; rfl
              · rw [if_neg p, if_neg p]
                unfold f_Club_drawn_107 f_Draws_timesInWater
                rw [b7]; rfl
            · unfold f_Model_drawn_49
              rw [hway, a2, Option.bind_some]
              unfold f_Model_drawn_57
              rw [b3]
              unfold f_Model_drawn_212
              by_cases p : what = 0
              · rw [if_pos p, if_pos p]; rfl
              · rw [if_neg p, if_neg p]; rfl
            · refine (KB.fx a6 (by rw [f12.1]) (fun j _ => by rw [(hs18 13 (by decide)).2]) (fun j _ => by rw [(hs18 15 (by decide)).1])).fm hm (by simp) (by simp)
            · refine KLw.fm ?_ g1 g6
              unfold KLw KT
              rw [f12.1, (hs18 14 (by decide)).2, (hs18 16 (by decide)).1]
              exact a7
        · rw [decide_eq_false hp]
          by_cases p : what < 0
          · rw [if_pos p]; exact RDw.no hB hK _
          · rw [if_neg p]
            unfold f_Club_drawn_51
            rw [if_neg (by rw [ti_le]; rw [ti_lt] at p; omega)]; exact RDw.no hB hK _
    · rw [decide_eq_false hh]
      by_cases p : nw / 10 < 1
      · rw [if_pos p, h39]; exact RDw.no hB hK _
      · rw [if_neg p]
        unfold f_Club_drawn_22
        rw [if_pos (by rw [ti_lt]; rw [ti_lt] at p; omega), h39]; exact RDw.no hB hK _
