/-! GUESSED -/
/-- did he take the club that the law gives? -/
def gsB (m : am_H) (L : Option ((Nat → Int32) → Int32)) (d j : Int32) : Bool := cellB (thS m d j 0).toInt32 && (!grB m (thS m d j 0).toInt32 && (clubB m (thS m d j 1).toInt32 && decide (tkX L m 0 (thS m d j 0).toInt32 0 = (thS m d j 1).toInt32)))
def gsF (m : am_H) (L : Option ((Nat → Int32) → Int32)) (d : Int32) : Nat → Int32 → Int32 → Int32
  | 0, _, n => n
  | k + 1, j, n => gsF m L d k (j + 1) (if gsB m L d j = true then n + 1 else n)
theorem l_took {x m : am_H} {L : Option ((Nat → Int32) → Int32)} (hR : RH x m) (hV : VM m) (hS : RS x m) (h16 : ¬ m.1 0 6 = 0 → ∀ c, cellB c = true → x.1 16 c.toNatClampNeg = tkX L m 0 c 0) {d : Int32} (hd : shelfB d = true) (h50 : m.1 16 d.toNatClampNeg = 50) :
    ∀ (k fu : Nat) (j n : Int32), 0 ≤ j.toInt → j.toInt + k = (m.1 17 d.toNatClampNeg).toInt / 3 → k < fu →
    f_Rounds_tookByLaw_4_l x fu (31 + 2 * d.toNatClampNeg) n j = some (gsF m L d k j n) := by
  have z3 : (3 : Int32).toInt = 3 := rfl
  have z31 : (31 : Int32).toInt = 31 := rfl
  have z0 : (0 : Int32).toInt = 0 := rfl
  obtain ⟨s1, s2, s3, s4⟩ := shelf_at hd
  have hS1 := hS d.toNatClampNeg s1
  have hL := hS1.2.1
  have hL2 := hS1.2.2.1
  have hdv : (m.1 17 d.toNatClampNeg / 3).toInt = (m.1 17 d.toNatClampNeg).toInt / 3 := by
    have := ti_div (m.1 17 d.toNatClampNeg) (b := 3) (by decide)
    rw [if_pos hL, z3] at this
    exact this
  intro k
  induction k with
  | zero =>
    intro fu j n h0 hj hf
    obtain ⟨g, rfl⟩ : ∃ g, fu = g + 1 := ⟨fu - 1, by omega⟩
    show f_Rounds_tookByLaw_4 (f_Rounds_tookByLaw_4_l x g) x _ n j = _
    unfold f_Rounds_tookByLaw_4 f_Rounds_tookByLaw_9 f_Shelf_length
    rw [hS1.1, if_pos (by rw [ti_le, hdv]; omega)]; rfl
  | succ k ih =>
    intro fu j n h0 hj hf
    obtain ⟨g, rfl⟩ : ∃ g, fu = g + 1 := ⟨fu - 1, by omega⟩
    have tj : (j + 1).toInt = j.toInt + 1 := by
      have z1 : (1 : Int32).toInt = 1 := rfl
      rw [ti_add, z1]; omega
    obtain ⟨a1, a2, a3, a4, a5⟩ := th_at hS (j := j) (t := 0) hd h50 h0 (by decide) (by omega)
    obtain ⟨b1, b2, b3, b4, b5⟩ := th_at hS (j := j) (t := 1) hd h50 h0 (by decide) (by
      have z1 : (1 : Int32).toInt = 1 := rfl
      omega)
    rw [add_00] at a2
    have hgo : f_Rounds_tookByLaw_4_l x (g + 1) (31 + 2 * d.toNatClampNeg) n j = f_Rounds_tookByLaw_45 (f_Rounds_tookByLaw_4_l x g) x (31 + 2 * d.toNatClampNeg) n j (thS m d j 0).toInt32 (thS m d j 1).toInt32 (cellB (thS m d j 0).toInt32 && !grB m (thS m d j 0).toInt32) := by
      show f_Rounds_tookByLaw_4 (f_Rounds_tookByLaw_4_l x g) x _ n j = _
      unfold f_Rounds_tookByLaw_4 f_Rounds_tookByLaw_9 f_Shelf_length
      rw [hS1.1, if_neg (by rw [ti_le, hdv]; omega)]
      unfold f_Rounds_tookByLaw_14
      rw [a2, Option.bind_some]
      unfold f_Rounds_tookByLaw_21
      rw [b2, Option.bind_some]
      unfold f_Rounds_tookByLaw_33
      rw [v_Hole_isOffGreen hR, Option.bind_some]
    rw [hgo]
    simp only [gsF]
    have hno : gsB m L d j = false → f_Rounds_tookByLaw_77 (f_Rounds_tookByLaw_4_l x g) x (31 + 2 * d.toNatClampNeg) n j = some (gsF m L d k (j + 1) (if gsB m L d j = true then n + 1 else n)) := by
      intro e
      rw [e, if_neg Bool.false_ne_true]
      exact ih g (j + 1) n (by omega) (by omega) (by omega)
    unfold f_Rounds_tookByLaw_45
    cases hc : cellB (thS m d j 0).toInt32 with
    | false => exact hno (by unfold gsB; rw [hc]; rfl)
    | true =>
      cases hg : grB m (thS m d j 0).toInt32 with
      | true => exact hno (by unfold gsB; rw [hc, hg]; rfl)
      | false =>
        rw [if_pos (show (true && !false) = true from rfl)]
        unfold f_Rounds_tookByLaw_48 f_Rounds_tookByLaw_57
        rw [v_Hole_hasClub hR hV]
        cases hcl : clubB m (thS m d j 1).toInt32 with
        | false => exact hno (by unfold gsB; rw [hc, hg, hcl]; rfl)
        | true =>
          rw [if_pos rfl]
          have h0c : ¬ m.1 0 6 = 0 := by
            intro q
            have := clubB_iff.mp hcl
            rw [q] at this; omega
          have c1 := cellB_iff.mp hc
          have hlc : f_Reck_lawfulClub x (thS m d j 0).toInt32 = some (tkX L m 0 (thS m d j 0).toInt32 0) := by
            unfold f_Reck_lawfulClub
            rw [if_neg (by rw [ti_lt]; omega)]
            unfold f_Reck_lawfulClub_4
            rw [if_neg (by rw [ti_le]; omega)]
            unfold f_Reck_lawfulClub_13
            rw [if_pos (ok_of c1), h16 h0c _ hc]
          unfold f_Rounds_tookByLaw_60
          rw [hlc, Option.bind_some]
          unfold f_Rounds_tookByLaw_69
          by_cases e : tkX L m 0 (thS m d j 0).toInt32 0 = (thS m d j 1).toInt32
          · have hb : gsB m L d j = true := by unfold gsB; rw [hc, hg, hcl, decide_eq_true e]; rfl
            rw [if_pos e, hb, if_pos rfl]
            exact ih g (j + 1) (n + 1) (by omega) (by omega) (by omega)
          · rw [if_neg e]
            exact hno (by unfold gsB; rw [hc, hg, hcl, decide_eq_false e]; rfl)
theorem thS_C {m y : am_H} (e : y.2 18 = m.2 18) : thS y = thS m := by
  funext d j t; unfold thS; rw [e]
theorem l_mguess {x m : am_H} {L : Option ((Nat → Int32) → Int32)} {d : Int32} (hd : shelfB d = true) (hV : VM m) :
    ∀ (k fu : Nat) (y : am_H) (j n : Int32), RTL x y L → RS x y → y.1 16 d.toNatClampNeg = 50 → sm [11, 12, 13, 14, 15] [7] m y → 0 ≤ j.toInt → j.toInt + k = (m.1 17 d.toNatClampNeg).toInt / 3 → k + 2 ≤ fu →
    ∃ y2, f_Model_guessed_18_l fu y d n j = some (gsF m L d k j n, y2) ∧ sm [11, 12, 13, 14, 15] [7] m y2 := by
  have z0 : (0 : Int32).toInt = 0 := rfl
  have z1 : (1 : Int32).toInt = 1 := rfl
  have z2 : (2 : Int32).toInt = 2 := rfl
  have z3 : (3 : Int32).toInt = 3 := rfl
  obtain ⟨s1, s2, s3, s4⟩ := shelf_at hd
  have h133 : ∀ (kk : am_H → Int32 → Int32 → Int32 → Option (Int32 × am_H)) (y : am_H) (j n : Int32), f_Model_guessed_88 kk y d n j = kk y d n (j + 1) := by
    intro kk y j n
    show kk y d (n + 0) (j + 1) = _
    rw [add_00]
  intro k
  induction k with
  | zero =>
    intro fu y j n hL hS h50 hs h0 hj hf
    obtain ⟨g, rfl⟩ : ∃ g, fu = g + 2 := ⟨fu - 2, by omega⟩
    have hS1 := hS d.toNatClampNeg s1
    have e17 : y.1 17 = m.1 17 := (hs.2.2 17 (by decide) (by simp)).1
    have hb1 := hS1.2.1
    have hb2 := hS1.2.2.1
    rw [e17] at hb1 hb2
    have t3 : (3 * j).toInt = 3 * j.toInt := by rw [ti_mul, z3]; omega
    have t32 : (3 * j + 2).toInt = 3 * j.toInt + 2 := by rw [ti_add, t3, z2]; omega
    have tj : (j + 1).toInt = j.toInt + 1 := by rw [ti_add, z1]; omega
    have t33 : (3 * (j + 1)).toInt = 3 * j.toInt + 3 := by rw [ti_mul, z3, tj]; omega
    refine ⟨y, ?_, hs⟩
    show f_Model_guessed_18 _ y d n j = _
    unfold f_Model_guessed_18
    rw [if_pos s2, e17]
    by_cases e : m.1 17 d.toNatClampNeg ≤ 3 * j
    · rw [if_pos e]; rfl
    · rw [if_neg e]
      unfold f_Model_guessed_30
      rw [if_pos s2, e17, if_pos (by rw [ti_le, t32]; omega), h133]
      show f_Model_guessed_18 _ y d n (j + 1) = _
      unfold f_Model_guessed_18
      rw [if_pos s2, e17, if_pos (by rw [ti_le, t33]; omega)]; rfl
  | succ k ih =>
    intro fu y j n hL hS h50 hs h0 hj hf
    obtain ⟨g, rfl⟩ : ∃ g, fu = g + 1 := ⟨fu - 1, by omega⟩
    have hS1 := hS d.toNatClampNeg s1
    have e17 : y.1 17 = m.1 17 := (hs.2.2 17 (by decide) (by simp)).1
    have e1 : y.1 1 = m.1 1 := (hs.2.2 1 (by decide) (by simp)).1
    have e6 : y.1 0 6 = m.1 0 6 := hs.1 6 (by simp)
    have e18 := thS_C (hs.2.2 18 (by decide) (by simp)).2
    have hVy : VM y := hV.row e1 e6
    have hb1 := hS1.2.1
    have hb2 := hS1.2.2.1
    rw [e17] at hb1 hb2
    have t3 : (3 * j).toInt = 3 * j.toInt := by rw [ti_mul, z3]; omega
    have t32 : (3 * j + 2).toInt = 3 * j.toInt + 2 := by rw [ti_add, t3, z2]; omega
    have tj : (j + 1).toInt = j.toInt + 1 := by rw [ti_add, z1]; omega
    obtain ⟨a1, a2, a3, a4, a5⟩ := th_at hS (j := j) (t := 0) hd h50 h0 (by decide) (by rw [e17]; omega)
    obtain ⟨b1, b2, b3, b4, b5⟩ := th_at hS (j := j) (t := 1) hd h50 h0 (by decide) (by rw [e17]; omega)
    have hit := v_itemOf hS (j := j) (t := 0) hd h50 h0 (by decide) (by rw [e17]; omega)
    rw [add_00] at a3 a4
    rw [e18] at a4 a5 b4 b5 hit
    have hgo : f_Model_guessed_18_l (g + 1) y d n j = f_Model_guessed_60 (f_Model_guessed_18_l g) y d n j (cellB (thS m d j 0).toInt32) := by
      show f_Model_guessed_18 _ y d n j = _
      unfold f_Model_guessed_18
      rw [if_pos s2, e17, if_neg (by rw [ti_le, t3]; omega)]
      unfold f_Model_guessed_30
      rw [if_pos s2, e17, if_neg (by rw [ti_le, t32]; omega)]
      unfold f_Model_guessed_44
      rw [if_pos a3, a4, v_Model_isCell, ← a5]
      rfl
    rw [hgo]
    simp only [gsF]
    have hno : gsB m L d j = false → ∃ y2, f_Model_guessed_88 (f_Model_guessed_18_l g) y d n j = some (gsF m L d k (j + 1) (if gsB m L d j = true then n + 1 else n), y2) ∧ sm [11, 12, 13, 14, 15] [7] m y2 := by
      intro e
      rw [e, if_neg Bool.false_ne_true, h133]
      exact ih g y (j + 1) n hL hS h50 hs (by omega) (by omega) (by omega)
    unfold f_Model_guessed_60
    cases hc : cellB (thS m d j 0).toInt32 with
    | false => exact hno (by unfold gsB; rw [hc]; rfl)
    | true =>
      rw [if_pos rfl]
      unfold f_Model_guessed_63
      rw [hit, Option.bind_some]
      unfold f_Model_guessed_71
      rw [v_Model_isGreen y hc, grB_c e1, Option.bind_some]
      unfold f_Model_guessed_74
      cases hg : grB m (thS m d j 0).toInt32 with
      | true => exact hno (by unfold gsB; rw [hc, hg]; rfl)
      | false =>
        rw [if_neg Bool.false_ne_true]
        unfold f_Model_guessed_77
        rw [e6]
        by_cases hz : m.1 0 6 ≤ 0
        · rw [if_pos hz]
          refine hno ?_
          have : clubB m (thS m d j 1).toInt32 = false := by
            unfold clubB
            rw [ti_le] at hz
            exact decide_eq_false (by omega)
          unfold gsB; rw [hc, hg, this]; rfl
        · rw [if_neg hz]; rw [ti_le] at hz
          have h0c : ¬ m.1 0 6 = 0 := fun q => hz (by rw [q]; decide)
          obtain ⟨y1, t1, t2⟩ := v_takenFrom hL hVy hc 0 (by rw [e6]; exact h0c)
          rw [tkX_C e1 e6] at t1
          have hcl := tkX_club hV h0c L 0 (thS m d j 0).toInt32 0
          have e18' : y1.2 18 = y.2 18 := (t2.2.2 18 (by decide) (by simp)).2
          have hgo2 : f_Model_guessed_84 (f_Model_guessed_18_l g) y d n j = f_Model_guessed_134 (f_Model_guessed_18_l g) y1 d j (if gsB m L d j = true then 1 else 0) n := by
            unfold f_Model_guessed_84 f_Model_guessed_89
            rw [if_neg (by decide)]
            unfold f_Model_guessed_97
            rw [hit, Option.bind_some]
            unfold f_Model_guessed_105
            rw [t1, Option.bind_some]
            unfold f_Model_guessed_109
            rw [if_pos b3, e18', b4]
            by_cases e : tkX L m 0 (thS m d j 0).toInt32 0 = (thS m d j 1).toInt32
            · have hcl2 : clubB m (thS m d j 1).toInt32 = true := by rw [← e]; exact hcl
              have hb : gsB m L d j = true := by unfold gsB; rw [hc, hg, hcl2, decide_eq_true e]; rfl
              rw [hb, if_pos rfl, if_pos (by rw [ti_eq64, ti_wide, e, b5])]; rfl
            · have hb : gsB m L d j = false := by
                unfold gsB; rw [decide_eq_false e]; simp
              rw [hb, if_neg Bool.false_ne_true, if_neg (by
                intro q
                apply e
                rw [ti_eq64, ti_wide, ← b5] at q
                rw [ti_eq]; exact q)]; rfl
          rw [hgo2]
          unfold f_Model_guessed_134
          have hn : n + (if gsB m L d j = true then 1 else 0) = if gsB m L d j = true then n + 1 else n := by
            split
            · rfl
            · rw [add_00]
          rw [hn]
          exact ih g y1 (j + 1) _ (hL.fm t2 (by simp) (by simp)) (hS.fm t2 (by simp) (by rw [t2.1 26 (by simp)]; exact Int.le_refl _)) (by rw [(t2.2.2 16 (by decide) (by simp)).1]; exact h50) (hs.tr t2) (by omega) (by omega) (by omega)
theorem E_guessed {x m : am_H} {L : Option ((Nat → Int32) → Int32)} (hL : RTL x m L) (hR : RH x m) (hV : VM m) (hS : RS x m) (hu : x.1 12 11 = 0) (hK : KLw x m L) (d : Int32) : ∃ r x2 m2, f_Club_guessed x d = some (r, x2) ∧ f_Model_guessed m d = some (r, m2) ∧ KLw x2 m2 L ∧ sx [10, 11, 12, 16] x x2 ∧ (∀ i, i ≠ 8 → x2.1 12 i = x.1 12 i) ∧ x2.2 12 = x.2 12 ∧ sm [11, 12, 13, 14, 15] [7] m m2 := by
  unfold f_Club_guessed f_Model_guessed
  rcases v_round hS d with ⟨e, he, a1, a2⟩ | ⟨a1, a2, hd, h50⟩
  · rw [a1, a2, Option.bind_some, Option.bind_some]
    refine ⟨e, x, m, ?_, ?_, hK, sx.rf _ _, fun _ _ => rfl, rfl, sm.rf _ _ _⟩
    · unfold f_Club_guessed_5; rw [if_neg (by rcases he with h | h | h <;> rw [h] <;> decide)]; rfl
    · unfold f_Model_guessed_5; rw [if_neg (by rcases he with h | h | h <;> rw [h] <;> decide)]; unfold f_Model_guessed_8; rw [a2]; rfl
  · rw [a1, a2, Option.bind_some, Option.bind_some]
    obtain ⟨s1, s2, s3, s4⟩ := shelf_at hd
    have hS1 := hS d.toNatClampNeg s1
    have hb1 := hS1.2.1
    have hb2 := hS1.2.2.1
    have z0 : (0 : Int32).toInt = 0 := rfl
    obtain ⟨x1, c1, c2, c3, c4, c5, c6⟩ := v_findLawful hL hR hV (tk := fun c => tkX L m 0 c 0) (fun c => by rw [hu]) hK
    have hS' : RS x1 m := hS.fx c2 (by decide)
    have t1 := l_took (L := L) (hR.fx c2 (by decide)) hV hS' (fun h0 c hc => c6.2.2 c5 h0 c hc) hd h50 ((m.1 17 d.toNatClampNeg).toInt / 3).toNat am_fu 0 0 (by decide) (by omega) (by unfold am_fu; omega)
    obtain ⟨m2, d1, d2⟩ := l_mguess (x := x) (L := L) hd hV ((m.1 17 d.toNatClampNeg).toInt / 3).toNat am_fu m 0 0 hL hS h50 (sm.rf _ _ _) (by decide) (by omega) (by unfold am_fu; omega)
    refine ⟨gsF m L d ((m.1 17 d.toNatClampNeg).toInt / 3).toNat 0 0, x1, m2, ?_, ?_, KLw.fm c6 (d2.2.2 1 (by decide) (by simp)).1 (d2.1 6 (by simp)), c2, c3, c4, d2⟩
    · unfold f_Club_guessed_5
      rw [if_pos rfl]
      unfold f_Club_guessed_12
      rw [c1, Option.bind_some]
      unfold f_Club_guessed_19
      rw [if_pos s2, s3]
      unfold f_Rounds_tookByLaw
      rw [t1, Option.bind_some]; rfl
    · unfold f_Model_guessed_5
      rw [if_pos (by decide)]
      exact d1
