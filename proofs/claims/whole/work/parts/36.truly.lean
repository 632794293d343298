/-! TRULY -/
/-- the ways of a told shot, had its club this carry -/
def wyS (m : am_H) (d c carry j : Int32) : Int32 := if thB m d j = true then waysS m (thS m d j 0).toInt32 carry (spS m c) (thS m d j 2).toInt32 else 0
/-- the product of the ways of all told shots of a club -/
def prS (m : am_H) (d c carry : Int32) : Nat → Int32 → Int64 → Int64
  | 0, _, p => p
  | k + 1, j, p => prS m d c carry k (j + 1) (if thS m d j 1 = c.toInt64 then p * (wyS m d c carry j).toInt64 else p)
/-- is a club told of? -/
def toI (m : am_H) (d c : Int32) : Nat → Int32 → Int32 → Int32
  | 0, _, f => f
  | k + 1, j, f => toI m d c k (j + 1) (if thS m d j 1 = c.toInt64 then 1 else f)
theorem toI_one (m : am_H) (d c : Int32) (k : Nat) (j : Int32) : toI m d c k j 1 = 1 := by
  induction k generalizing j with
  | zero => rfl
  | succ k ih => unfold toI; split <;> exact ih _
theorem prS_zero (m : am_H) (d c carry : Int32) (k : Nat) (j : Int32) : prS m d c carry k j 0 = 0 := by
  induction k generalizing j with
  | zero => rfl
  | succ k ih =>
    unfold prS
    split
    · rw [show (0 : Int64) * (wyS m d c carry j).toInt64 = 0 from by
        rw [← Int64.toInt_inj, Int64.toInt_mul]
        have z0 : (0 : Int64).toInt = 0 := rfl
        rw [z0, Int.zero_mul]; rfl]
      exact ih _
    · exact ih _
theorem wyS_b {m : am_H} (hV : VM m) {c : Int32} (hc : clubB m c = true) (d carry j : Int32) : 0 ≤ (wyS m d c carry j).toInt ∧ (wyS m d c carry j).toInt ≤ 7 := by
  unfold wyS
  split
  · exact waysS_b hV hc _ _ _
  · exact ⟨by decide, by decide⟩
theorem pow7 {n : Nat} (h : n ≤ 20) : (7 : Int) ^ n ≤ 79792266297612001 := by
  have : 7 ^ n ≤ 7 ^ 20 := Nat.pow_le_pow_right (by decide) h
  have e : (7 : Int) ^ n = ((7 ^ n : Nat) : Int) := by simp
  rw [e]
  have e2 : 7 ^ 20 = 79792266297612001 := by decide
  omega
theorem pr_step {p : Int64} {w : Int32} {n : Nat} (hn : n < 20) (hp : 0 ≤ p.toInt ∧ p.toInt ≤ (7 : Int) ^ n) (hw : 0 ≤ w.toInt ∧ w.toInt ≤ 7) : 0 ≤ (p * w.toInt64).toInt ∧ (p * w.toInt64).toInt ≤ (7 : Int) ^ (n + 1) := by
  have h1 : 0 ≤ p.toInt * w.toInt := Int.mul_nonneg hp.1 hw.1
  have h2 : p.toInt * w.toInt ≤ (7 : Int) ^ n * 7 := Int.mul_le_mul hp.2 hw.2 hw.1 (Int.le_trans hp.1 hp.2)
  have h3 : (7 : Int) ^ (n + 1) = (7 : Int) ^ n * 7 := Int.pow_succ _ _
  have h4 := pow7 (n := n + 1) (by omega)
  have h5 : (p * w.toInt64).toInt = p.toInt * w.toInt := by
    rw [tl_mul, ti_wide]
    rw [h3] at h4
    omega
  rw [h5, h3]
  exact ⟨h1, h2⟩
theorem eq_64 {b : Int64} {c : Int32} (hb : b.toInt32.toInt = b.toInt) (h : b = c.toInt64) : b.toInt32 = c := by
  rw [ti_eq, hb, h, ti_wide]
theorem thB_c {m : am_H} {d j c : Int32} (hb : (thS m d j 1).toInt32.toInt = (thS m d j 1).toInt) (h : thS m d j 1 = c.toInt64) (hc : clubB m c = true) :
    thB m d j = true ↔ ((cellB (thS m d j 0).toInt32 && !grB m (thS m d j 0).toInt32) = true ∧ cellB (thS m d j 2).toInt32 = true) := by
  unfold thB
  rw [eq_64 hb h, hc]
  cases cellB (thS m d j 0).toInt32 <;> cases cellB (thS m d j 2).toInt32 <;> cases grB m (thS m d j 0).toInt32 <;> simp
theorem l_told {x m : am_H} (hS : RS x m) {d : Int32} (hd : shelfB d = true) (h50 : m.1 16 d.toNatClampNeg = 50) {c : Int32} : ∀ (k fu : Nat) (j : Int32), 0 ≤ j.toInt → j.toInt + k = (m.1 17 d.toNatClampNeg).toInt / 3 → k < fu →
    f_Rounds_isToldOf_2_l x fu (31 + 2 * d.toNatClampNeg) c j = some (decide (toI m d c k j 0 = 1)) := by
  have z1 : (1 : Int32).toInt = 1 := rfl
  have z3 : (3 : Int32).toInt = 3 := rfl
  obtain ⟨s1, s2, s3, s4⟩ := shelf_at hd
  have hS1 := hS d.toNatClampNeg s1
  have hL := hS1.2.1
  have hL2 := hS1.2.2.1
  have hdv : (m.1 17 d.toNatClampNeg / 3).toInt = (m.1 17 d.toNatClampNeg).toInt / 3 := by
    have := ti_div (m.1 17 d.toNatClampNeg) (b := 3) (by decide)
    rw [if_pos hL, z3] at this
    exact this
  intro k
  induction k with
  | zero =>
    intro fu j h0 hj hf
    obtain ⟨g, rfl⟩ : ∃ g, fu = g + 1 := ⟨fu - 1, by omega⟩
    show f_Rounds_isToldOf_2 _ x _ c j = _
    unfold f_Rounds_isToldOf_2 f_Shelf_length f_Rounds_isToldOf_7
    rw [hS1.1, if_pos (by rw [ti_le, hdv]; omega)]
    rfl
  | succ k ih =>
    intro fu j h0 hj hf
    obtain ⟨g, rfl⟩ : ∃ g, fu = g + 1 := ⟨fu - 1, by omega⟩
    have tj : (j + 1).toInt = j.toInt + 1 := by rw [ti_add]; omega
    obtain ⟨b1, b2, b3, b4, b5⟩ := th_at hS (j := j) (t := 1) hd h50 h0 (by decide) (by omega)
    show f_Rounds_isToldOf_2 _ x _ c j = _
    unfold f_Rounds_isToldOf_2 f_Shelf_length f_Rounds_isToldOf_7
    rw [hS1.1, if_neg (by rw [ti_le, hdv]; omega)]
    unfold f_Rounds_isToldOf_12; rw [b2, Option.bind_some]
    unfold f_Rounds_isToldOf_21 toI
    by_cases e : thS m d j 1 = c.toInt64
    · rw [if_pos e, if_pos e, toI_one]; rfl
    · rw [if_neg e, if_neg e]; exact ih g (j + 1) (by omega) (by omega) (by omega)
theorem l_all {x m : am_H} (hR : RH x m) (hV : VM m) (hS : RS x m) {d : Int32} (hd : shelfB d = true) (h50 : m.1 16 d.toNatClampNeg = 50) {c : Int32} (hc : clubB m c = true) (carry : Int32) : ∀ (k fu : Nat) (j : Int32) (p : Int64), 0 ≤ j.toInt → j.toInt + k = (m.1 17 d.toNatClampNeg).toInt / 3 → k < fu → (0 ≤ p.toInt ∧ p.toInt ≤ (7 : Int) ^ j.toInt.toNat) →
    f_Rounds_waysOfAll_6_l x fu (31 + 2 * d.toNatClampNeg) c carry p j = some (prS m d c carry k j p) := by
  have z1 : (1 : Int32).toInt = 1 := rfl
  have z3 : (3 : Int32).toInt = 3 := rfl
  have z2 : (2 : Int32).toInt = 2 := rfl
  have z0 : (0 : Int32).toInt = 0 := rfl
  have y0 : (0 : Int64).toInt = 0 := rfl
  obtain ⟨s1, s2, s3, s4⟩ := shelf_at hd
  have hS1 := hS d.toNatClampNeg s1
  have hL := hS1.2.1
  have hL2 := hS1.2.2.1
  have hdv : (m.1 17 d.toNatClampNeg / 3).toInt = (m.1 17 d.toNatClampNeg).toInt / 3 := by
    have := ti_div (m.1 17 d.toNatClampNeg) (b := 3) (by decide)
    rw [if_pos hL, z3] at this
    exact this
  intro k
  induction k with
  | zero =>
    intro fu j p h0 hj hf hp
    obtain ⟨g, rfl⟩ : ∃ g, fu = g + 1 := ⟨fu - 1, by omega⟩
    show f_Rounds_waysOfAll_6 _ x _ c carry p j = _
    unfold f_Rounds_waysOfAll_6 f_Shelf_length f_Rounds_waysOfAll_12
    rw [hS1.1, if_pos (by rw [ti_le, hdv]; omega)]
    rfl
  | succ k ih =>
    intro fu j p h0 hj hf hp
    obtain ⟨g, rfl⟩ : ∃ g, fu = g + 1 := ⟨fu - 1, by omega⟩
    have tj : (j + 1).toInt = j.toInt + 1 := by rw [ti_add]; omega
    have nj : (j + 1).toInt.toNat = j.toInt.toNat + 1 := by omega
    obtain ⟨a1, a2, a3, a4, a5⟩ := th_at hS (j := j) (t := 0) hd h50 h0 (by decide) (by omega)
    obtain ⟨b1, b2, b3, b4, b5⟩ := th_at hS (j := j) (t := 1) hd h50 h0 (by decide) (by omega)
    obtain ⟨c1, c2, c3, c4, c5⟩ := th_at hS (j := j) (t := 2) hd h50 h0 (by decide) (by omega)
    rw [add_00] at a2
    show f_Rounds_waysOfAll_6 _ x _ c carry p j = _
    unfold f_Rounds_waysOfAll_6 f_Shelf_length f_Rounds_waysOfAll_12
    rw [hS1.1, if_neg (by rw [ti_le, hdv]; omega)]
    unfold f_Rounds_waysOfAll_17
    by_cases ep : p ≤ 0
    · have e0 : p = 0 := by
        rw [← Int64.toInt_inj]
        have := Int64.le_iff_toInt_le.mp ep
        omega
      rw [if_pos ep, e0, prS_zero]; rfl
    · rw [if_neg ep]
      unfold f_Rounds_waysOfAll_24; rw [b2, Option.bind_some]
      unfold f_Rounds_waysOfAll_34 prS
      by_cases e : thS m d j 1 = c.toInt64
      · rw [if_pos e, if_pos e]
        have hw : f_Rounds_waysToBe x (thS m d j 0).toInt32 carry (spS m c) (thS m d j 2).toInt32 = some (wyS m d c carry j) := by
          rw [v_waysToBe hR _ _ (spS_03 hV hc)]
          unfold wyS
          by_cases eB : thB m d j = true
          · rw [if_pos eB, if_pos ((thB_c b5 e hc).mp eB)]
          · rw [if_neg eB, if_neg (fun z => eB ((thB_c b5 e hc).mpr z))]
        simp only [f_Rounds_waysOfAll_40, a2, Option.bind_some, f_Rounds_waysOfAll_48, v_Hole_spreadOf hR hV hc, f_Rounds_waysOfAll_65, c2, f_Rounds_waysOfAll_75, hw, f_Rounds_waysOfAll_79]
        unfold f_Rounds_waysOfAll_83
        exact ih g (j + 1) _ (by omega) (by omega) (by omega) (by rw [nj]; exact pr_step (by omega) hp (wyS_b hV hc _ _ _))
      · rw [if_neg e, if_neg e]
        unfold f_Rounds_waysOfAll_83
        refine ih g (j + 1) p (by omega) (by omega) (by omega) ⟨hp.1, ?_⟩
        rw [nj, Int.pow_succ]; omega
theorem l_tin {x m : am_H} (hV : VM m) (hS : RS x m) {d : Int32} (hd : shelfB d = true) (h50 : m.1 16 d.toNatClampNeg = 50) {c : Int32} (K : Int32 → Int32 → Int32 → Int64 → Int32 → Option Int32) (x3 : Int32) (x4 : Int64) (carry : Int32) :
    ∀ (k fu : Nat) (j : Int32) (p : Int64) (f : Int32), 0 ≤ j.toInt → j.toInt + k = (m.1 17 d.toNatClampNeg).toInt / 3 → k + 1 < fu →
    f_Model_truly_59_l K m fu d c x3 x4 carry p f j = f_Model_truly_147 K m d c x3 x4 carry (prS m d c carry k j p) (toI m d c k j f) := by
  have z1 : (1 : Int32).toInt = 1 := rfl
  have z3 : (3 : Int32).toInt = 3 := rfl
  have z2 : (2 : Int32).toInt = 2 := rfl
  obtain ⟨s1, s2, s3, s4⟩ := shelf_at hd
  have hS1 := hS d.toNatClampNeg s1
  have hL := hS1.2.1
  have hL2 := hS1.2.2.1
  intro k
  induction k with
  | zero =>
    intro fu j p f h0 hj hf
    obtain ⟨g, rfl⟩ : ∃ g, fu = g + 1 + 1 := ⟨fu - 2, by omega⟩
    have t3 : (3 * j).toInt = 3 * j.toInt := by rw [ti_mul, z3]; omega
    have t32 : (3 * j + 2).toInt = 3 * j.toInt + 2 := by rw [ti_add]; omega
    have tj : (j + 1).toInt = j.toInt + 1 := by rw [ti_add]; omega
    have t3' : (3 * (j + 1)).toInt = 3 * j.toInt + 3 := by rw [ti_mul, z3]; omega
    show f_Model_truly_59 K _ m d c x3 x4 carry p f j = _
    unfold f_Model_truly_59; rw [if_pos s2]
    by_cases e : (m.1 17 d.toNatClampNeg).toInt = 3 * j.toInt
    · rw [if_pos (by rw [ti_le, t3]; omega)]; rfl
    · rw [if_neg (by rw [ti_le, t3]; omega)]
      unfold f_Model_truly_72; rw [if_pos s2, if_pos (by rw [ti_le, t32]; omega)]
      unfold f_Model_truly_141
      show f_Model_truly_59 K _ m d c x3 x4 carry p f (j + 1) = _
      unfold f_Model_truly_59; rw [if_pos s2, if_pos (by rw [ti_le, t3']; omega)]; rfl
  | succ k ih =>
    intro fu j p f h0 hj hf
    obtain ⟨g, rfl⟩ : ∃ g, fu = g + 1 := ⟨fu - 1, by omega⟩
    have t3 : (3 * j).toInt = 3 * j.toInt := by rw [ti_mul, z3]; omega
    have t32 : (3 * j + 2).toInt = 3 * j.toInt + 2 := by rw [ti_add]; omega
    have tj : (j + 1).toInt = j.toInt + 1 := by rw [ti_add]; omega
    obtain ⟨b1, b2, b3, b4, b5⟩ := th_at hS (j := j) (t := 1) hd h50 h0 (by decide) (by omega)
    show f_Model_truly_59 K _ m d c x3 x4 carry p f j = _
    unfold f_Model_truly_59; rw [if_pos s2, if_neg (by rw [ti_le, t3]; omega)]
    unfold f_Model_truly_72; rw [if_pos s2, if_neg (by rw [ti_le, t32]; omega)]
    unfold f_Model_truly_87; rw [if_pos b3, b4]
    unfold prS toI
    by_cases e : thS m d j 1 = c.toInt64
    · rw [if_pos e, if_pos e, if_pos e]
      unfold f_Model_truly_109; rw [v_isThree hV hS hd h50 h0 (by omega), Option.bind_some]
      unfold f_Model_truly_121
      by_cases eB : thB m d j = true
      · rw [if_pos eB]
        unfold f_Model_truly_124; rw [v_waysOf hV hS _ hd h50 h0 (by omega) eB, Option.bind_some]
        unfold f_Model_truly_133 f_Model_truly_138 f_Model_truly_141
        have ew : wyS m d c carry j = waysS m (thS m d j 0).toInt32 carry (spS m (thS m d j 1).toInt32) (thS m d j 2).toInt32 := by
          unfold wyS; rw [if_pos eB, eq_64 b5 e]
        rw [ew]
        exact ih g (j + 1) _ _ (by omega) (by omega) (by omega)
      · rw [if_neg eB]
        unfold f_Model_truly_137 f_Model_truly_138 f_Model_truly_141
        have ew : wyS m d c carry j = 0 := by unfold wyS; rw [if_neg eB]
        rw [ew]
        exact ih g (j + 1) _ _ (by omega) (by omega) (by omega)
    · rw [if_neg e, if_neg e, if_neg e]
      unfold f_Model_truly_141
      exact ih g (j + 1) _ _ (by omega) (by omega) (by omega)
theorem toI_01 (m : am_H) (d c : Int32) (k : Nat) (j : Int32) : toI m d c k j 0 = 0 ∨ toI m d c k j 0 = 1 := by
  induction k generalizing j with
  | zero => exact Or.inl rfl
  | succ k ih =>
    unfold toI
    split
    · exact Or.inr (toI_one _ _ _ _ _)
    · exact ih _
/-- the carry that both find -/
def tuS (m : am_H) (d c : Int32) (N : Nat) : Nat → Int32 → Int64 → Int32 → Int32
  | 0, b, _, _ => b
  | k + 1, b, w, y => if prS m d c y N 0 1 ≤ w then tuS m d c N k b w (y + 1) else tuS m d c N k y (prS m d c y N 0 1) (y + 1)
theorem E_truly {x m : am_H} (hR : RH x m) (hV : VM m) (hS : RS x m) (d c : Int32) : ∃ r, f_Club_truly x d c = some r ∧ f_Model_truly m d c = some r := by
  have z1 : (1 : Int32).toInt = 1 := rfl
  have z30 : (30 : Int32).toInt = 30 := rfl
  have z31 : (31 : Int32).toInt = 31 := rfl
  have z0 : (0 : Int32).toInt = 0 := rfl
  unfold f_Club_truly f_Model_truly
  rw [v_Hole_hasClub hR hV]
  rcases v_round hS d with ⟨e, he, a1, a2⟩ | ⟨a1, a2, hd, h50⟩
  · rw [a2, Option.bind_some]
    have ne0 : ¬ e = 0 := by rcases he with h | h | h <;> rw [h] <;> decide
    have nle : ¬ 0 ≤ e := by rcases he with h | h | h <;> rw [h] <;> decide
    have c1 : f_Club_truly_8 x d c (clubB m c) = some (if clubB m c = true then e else -1) := by
      unfold f_Club_truly_8
      by_cases h : clubB m c = true
      · rw [if_pos h, if_pos h]; unfold f_Club_truly_13; rw [a1, Option.bind_some]; unfold f_Club_truly_18; rw [if_neg ne0]; rfl
      · rw [if_neg h, if_neg h]; rfl
    refine ⟨_, c1, ?_⟩
    unfold f_Model_truly_5
    by_cases e1 : e = -1
    · rw [if_pos e1]; unfold f_Model_truly_18; rw [e1]; simp
    · rw [if_neg e1]
      unfold f_Model_truly_9 f_Model_truly_15
      rw [v_Model_isClub32 hV]
      by_cases h : clubB m c = true
      · rw [if_pos h, if_pos h]; unfold f_Model_truly_20; rw [a2, Option.bind_some]; unfold f_Model_truly_25; rw [if_neg nle]; unfold f_Model_truly_28; rw [a2]; rfl
      · rw [if_neg h, if_neg h]; rfl
  · rw [a2, Option.bind_some]
    unfold f_Model_truly_5; rw [if_neg (by decide)]
    unfold f_Model_truly_9 f_Model_truly_15 f_Club_truly_8
    rw [v_Model_isClub32 hV]
    by_cases hc : clubB m c = true
    · rw [if_pos hc, if_pos hc]
      unfold f_Model_truly_20; rw [a2, Option.bind_some]
      unfold f_Model_truly_25; rw [if_pos (by decide)]
      unfold f_Club_truly_13; rw [a1, Option.bind_some]
      unfold f_Club_truly_18; rw [if_pos rfl]
      obtain ⟨s1, s2, s3, s4⟩ := shelf_at hd
      have hS1 := hS d.toNatClampNeg s1
      have hL := hS1.2.1
      have hL2 := hS1.2.2.1
      unfold f_Club_truly_27; rw [if_pos s2, s3]
      unfold f_Rounds_likeliestCarry f_Rounds_isToldOf
      obtain ⟨N, hN⟩ : ∃ N : Nat, (N : Int) = (m.1 17 d.toNatClampNeg).toInt / 3 := ⟨((m.1 17 d.toNatClampNeg).toInt / 3).toNat, by omega⟩
      rw [l_told hS hd h50 N am_fu 0 (by decide) (by rw [z0]; omega) (by unfold am_fu; omega), Option.bind_some]
      unfold f_Rounds_likeliestCarry_6 f_Model_truly_34
      by_cases et : toI m d c N 0 0 = 1
      · rw [decide_eq_true et, if_pos rfl]
        unfold f_Rounds_likeliestCarry_12
        have lx : ∀ (k fu : Nat) (b : Int32) (w : Int64) (y : Int32), 0 ≤ y.toInt → y.toInt + k = 31 → k < fu → f_Rounds_likeliestCarry_21_l x fu (31 + 2 * d.toNatClampNeg) c b w y = some (tuS m d c N k b w y) := by
          intro k
          induction k with
          | zero =>
            intro fu b w y h0 hy hf
            obtain ⟨g, rfl⟩ : ∃ g, fu = g + 1 := ⟨fu - 1, by omega⟩
            show f_Rounds_likeliestCarry_21 _ x _ c b w y = _
            unfold f_Rounds_likeliestCarry_21; rw [if_pos (by rw [ti_le]; omega)]; rfl
          | succ k ih =>
            intro fu b w y h0 hy hf
            obtain ⟨g, rfl⟩ : ∃ g, fu = g + 1 := ⟨fu - 1, by omega⟩
            have ty : (y + 1).toInt = y.toInt + 1 := by rw [ti_add]; omega
            show f_Rounds_likeliestCarry_21 _ x _ c b w y = _
            unfold f_Rounds_likeliestCarry_21; rw [if_neg (by rw [ti_le]; omega)]
            unfold f_Rounds_likeliestCarry_28 f_Rounds_waysOfAll
            rw [l_all hR hV hS hd h50 hc y N am_fu 0 1 (by decide) (by rw [z0]; omega) (by unfold am_fu; omega) (by decide), Option.bind_some]
            unfold f_Rounds_likeliestCarry_36 tuS
            by_cases e : prS m d c y N 0 1 ≤ w
            · rw [if_pos e, if_pos e]; exact ih g b w (y + 1) (by omega) (by omega) (by omega)
            · rw [if_neg e, if_neg e]; exact ih g y _ (y + 1) (by omega) (by omega) (by omega)
        have lm : ∀ (k fu : Nat) (b : Int32) (w : Int64) (y : Int32), 0 ≤ y.toInt → y.toInt + k = 31 → k < fu → f_Model_truly_43_l m fu d c b w y = some (tuS m d c N k b w y) := by
          intro k
          induction k with
          | zero =>
            intro fu b w y h0 hy hf
            obtain ⟨g, rfl⟩ : ∃ g, fu = g + 1 := ⟨fu - 1, by omega⟩
            show f_Model_truly_43 _ m d c b w y = _
            unfold f_Model_truly_43; rw [if_pos (by rw [ti_lt]; omega)]; rfl
          | succ k ih =>
            intro fu b w y h0 hy hf
            obtain ⟨g, rfl⟩ : ∃ g, fu = g + 1 := ⟨fu - 1, by omega⟩
            have ty : (y + 1).toInt = y.toInt + 1 := by rw [ti_add]; omega
            show f_Model_truly_43 _ m d c b w y = _
            unfold f_Model_truly_43; rw [if_neg (by rw [ti_lt]; omega)]
            unfold f_Model_truly_50
            rw [l_tin hV hS hd h50 _ _ _ y N am_fu 0 1 0 (by decide) (by rw [z0]; omega) (by unfold am_fu; omega), et]
            unfold f_Model_truly_147; rw [if_neg (by decide)]
            unfold f_Model_truly_152 tuS
            by_cases e : prS m d c y N 0 1 ≤ w
            · rw [if_pos e, if_pos e]; exact ih g b w (y + 1) (by omega) (by omega) (by omega)
            · rw [if_neg e, if_neg e]; exact ih g y _ (y + 1) (by omega) (by omega) (by omega)
        refine ⟨tuS m d c N 31 (-2) 0 0, ?_, lm 31 am_fu (-2) 0 0 (by decide) (by decide) (by decide)⟩
        rw [lx 31 am_fu (-2) 0 0 (by decide) (by decide) (by decide)]; rfl
      · rw [decide_eq_false et, if_neg (by decide)]
        have et0 : toI m d c N 0 0 = 0 := by rcases toI_01 m d c N 0 with h | h; exact h; exact absurd h et
        have lm : ∀ (k fu : Nat) (b : Int32) (w : Int64) (y : Int32), 0 ≤ y.toInt → y.toInt + k = 31 → k < fu → f_Model_truly_43_l m fu d c b w y = some b := by
          intro k
          induction k with
          | zero =>
            intro fu b w y h0 hy hf
            obtain ⟨g, rfl⟩ : ∃ g, fu = g + 1 := ⟨fu - 1, by omega⟩
            show f_Model_truly_43 _ m d c b w y = _
            unfold f_Model_truly_43; rw [if_pos (by rw [ti_lt]; omega)]; rfl
          | succ k ih =>
            intro fu b w y h0 hy hf
            obtain ⟨g, rfl⟩ : ∃ g, fu = g + 1 := ⟨fu - 1, by omega⟩
            have ty : (y + 1).toInt = y.toInt + 1 := by rw [ti_add]; omega
            show f_Model_truly_43 _ m d c b w y = _
            unfold f_Model_truly_43; rw [if_neg (by rw [ti_lt]; omega)]
            unfold f_Model_truly_50
            rw [l_tin hV hS hd h50 _ _ _ y N am_fu 0 1 0 (by decide) (by rw [z0]; omega) (by unfold am_fu; omega), et0]
            unfold f_Model_truly_147; rw [if_pos rfl]
            exact ih g b w (y + 1) (by omega) (by omega) (by omega)
        exact ⟨-2, rfl, lm 31 am_fu (-2) 0 0 (by decide) (by decide) (by decide)⟩
    · rw [if_neg hc, if_neg hc]; exact ⟨-1, rfl, rfl⟩
