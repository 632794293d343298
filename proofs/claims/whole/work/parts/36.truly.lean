/-! TRULY -/
/-- the ways of a told shot, had its club this carry -/
def wyS (m : am_H) (d c carry j : Int32) : Int32 := if thB m d j = true then waysS m (thS m d j 0).toInt32 carry (spS m c) (thS m d j 2).toInt32 else 0
/-- the product of the ways of all told shots of a club -/
def prS (m : am_H) (d c carry : Int32) : Nat → Int32 → Int64 → Int64
  | 0, _, p => p
  | k + 1, j, p => prS m d c carry k (j + 1) (if thS m d j 1 = c.toInt64 then p * (wyS m d c carry j).toInt64 else p)
/-- is a club told of? -/
def toI (m : am_H) (d c : Int32) : Nat → Int32 → Int32 → Int32
  | 0, _, f => f
  | k + 1, j, f => toI m d c k (j + 1) (if thS m d j 1 = c.toInt64 then 1 else f)
theorem toI_one (m : am_H) (d c : Int32) (k : Nat) (j : Int32) : toI m d c k j 1 = 1 := by
  induction k generalizing j with
  | zero => rfl
  | succ k ih => unfold toI; split <;> exact ih _
theorem prS_zero (m : am_H) (d c carry : Int32) (k : Nat) (j : Int32) : prS m d c carry k j 0 = 0 := by
  induction k generalizing j with
  | zero => rfl
  | succ k ih =>
    unfold prS
    split
    · rw [show (0 : Int64) * (wyS m d c carry j).toInt64 = 0 from by
        rw [← Int64.toInt_inj, Int64.toInt_mul]
        have z0 : (0 : Int64).toInt = 0 := rfl
        rw [z0, Int.zero_mul]; rfl]
      exact ih _
    · exact ih _
theorem wyS_b {m : am_H} (hV : VM m) {c : Int32} (hc : clubB m c = true) (d carry j : Int32) : 0 ≤ (wyS m d c carry j).toInt ∧ (wyS m d c carry j).toInt ≤ 7 := by
  unfold wyS
  split
  · exact waysS_b hV hc _ _ _
  · exact ⟨by decide, by decide⟩
theorem pow7 {n : Nat} (h : n ≤ 20) : (7 : Int) ^ n ≤ 79792266297612001 := by
  have : 7 ^ n ≤ 7 ^ 20 := Nat.pow_le_pow_right (by decide) h
  have e : (7 : Int) ^ n = ((7 ^ n : Nat) : Int) := by simp
  rw [e]
  have e2 : 7 ^ 20 = 79792266297612001 := by decide
  omega
theorem pr_step {p : Int64} {w : Int32} {n : Nat} (hn : n < 20) (hp : 0 ≤ p.toInt ∧ p.toInt ≤ (7 : Int) ^ n) (hw : 0 ≤ w.toInt ∧ w.toInt ≤ 7) : 0 ≤ (p * w.toInt64).toInt ∧ (p * w.toInt64).toInt ≤ (7 : Int) ^ (n + 1) := by
  have h1 : 0 ≤ p.toInt * w.toInt := Int.mul_nonneg hp.1 hw.1
  have h2 : p.toInt * w.toInt ≤ (7 : Int) ^ n * 7 := Int.mul_le_mul hp.2 hw.2 hw.1 (Int.le_trans hp.1 hp.2)
  have h3 : (7 : Int) ^ (n + 1) = (7 : Int) ^ n * 7 := Int.pow_succ _ _
  have h4 := pow7 (n := n + 1) (by omega)
  have h5 : (p * w.toInt64).toInt = p.toInt * w.toInt := by
    rw [tl_mul, ti_wide]
    rw [h3] at h4
    omega
  rw [h5, h3]
  exact ⟨h1, h2⟩
theorem eq_64 {b : Int64} {c : Int32} (hb : b.toInt32.toInt = b.toInt) (h : b = c.toInt64) : b.toInt32 = c := by
  rw [ti_eq, hb, h, ti_wide]
theorem thB_c {m : am_H} {d j c : Int32} (hb : (thS m d j 1).toInt32.toInt = (thS m d j 1).toInt) (h : thS m d j 1 = c.toInt64) (hc : clubB m c = true) :
    thB m d j = true ↔ ((cellB (thS m d j 0).toInt32 && !grB m (thS m d j 0).toInt32) = true ∧ cellB (thS m d j 2).toInt32 = true) := by
  unfold thB
  rw [eq_64 hb h, hc]
  cases cellB (thS m d j 0).toInt32 <;> cases cellB (thS m d j 2).toInt32 <;> cases grB m (thS m d j 0).toInt32 <;> simp
theorem l_told {x m : am_H} (hS : RS x m) {d : Int32} (hd : shelfB d = true) (h50 : m.1 16 d.toNatClampNeg = 50) {c : Int32} : ∀ (k fu : Nat) (j : Int32), 0 ≤ j.toInt → j.toInt + k = (m.1 17 d.toNatClampNeg).toInt / 3 → k < fu →
    f_Rounds_isToldOf_2_l x fu (31 + 2 * d.toNatClampNeg) c j = some (decide (toI m d c k j 0 = 1)) := by
  have z1 : (1 : Int32).toInt = 1 := rfl
  have z3 : (3 : Int32).toInt = 3 := rfl
  obtain ⟨s1, s2, s3, s4⟩ := shelf_at hd
  have hS1 := hS d.toNatClampNeg s1
  have hL := hS1.2.1
  have hL2 := hS1.2.2.1
  have hdv : (m.1 17 d.toNatClampNeg / 3).toInt = (m.1 17 d.toNatClampNeg).toInt / 3 := by
    have := ti_div (m.1 17 d.toNatClampNeg) (b := 3) (by decide)
    rw [if_pos hL, z3] at this
    exact this
  intro k
  induction k with
  | zero =>
    intro fu j h0 hj hf
    obtain ⟨g, rfl⟩ : ∃ g, fu = g + 1 := ⟨fu - 1, by omega⟩
    show f_Rounds_isToldOf_2 _ x _ c j = _
    unfold f_Rounds_isToldOf_2 f_Shelf_length f_Rounds_isToldOf_7
    rw [hS1.1, if_pos (by rw [ti_le, hdv]; omega)]
    rfl
  | succ k ih =>
    intro fu j h0 hj hf
    obtain ⟨g, rfl⟩ : ∃ g, fu = g + 1 := ⟨fu - 1, by omega⟩
    have tj : (j + 1).toInt = j.toInt + 1 := by rw [ti_add]; omega
    obtain ⟨b1, b2, b3, b4, b5⟩ := th_at hS (j := j) (t := 1) hd h50 h0 (by decide) (by omega)
    show f_Rounds_isToldOf_2 _ x _ c j = _
    unfold f_Rounds_isToldOf_2 f_Shelf_length f_Rounds_isToldOf_7
    rw [hS1.1, if_neg (by rw [ti_le, hdv]; omega)]
    unfold f_Rounds_isToldOf_12; rw [b2, Option.bind_some]
    unfold f_Rounds_isToldOf_21 toI
    by_cases e : thS m d j 1 = c.toInt64
    · rw [if_pos e, if_pos e, toI_one]; rfl
    · rw [if_neg e, if_neg e]; exact ih g (j + 1) (by omega) (by omega) (by omega)
theorem l_all {x m : am_H} (hR : RH x m) (hV : VM m) (hS : RS x m) {d : Int32} (hd : shelfB d = true) (h50 : m.1 16 d.toNatClampNeg = 50) {c : Int32} (hc : clubB m c = true) (carry : Int32) : ∀ (k fu : Nat) (j : Int32) (p : Int64), 0 ≤ j.toInt → j.toInt + k = (m.1 17 d.toNatClampNeg).toInt / 3 → k < fu → (0 ≤ p.toInt ∧ p.toInt ≤ (7 : Int) ^ j.toInt.toNat) →
    f_Rounds_waysOfAll_6_l x fu (31 + 2 * d.toNatClampNeg) c carry p j = some (prS m d c carry k j p) := by
  have z1 : (1 : Int32).toInt = 1 := rfl
  have z3 : (3 : Int32).toInt = 3 := rfl
  have z2 : (2 : Int32).toInt = 2 := rfl
  have z0 : (0 : Int32).toInt = 0 := rfl
  have y0 : (0 : Int64).toInt = 0 := rfl
  obtain ⟨s1, s2, s3, s4⟩ := shelf_at hd
  have hS1 := hS d.toNatClampNeg s1
  have hL := hS1.2.1
  have hL2 := hS1.2.2.1
  have hdv : (m.1 17 d.toNatClampNeg / 3).toInt = (m.1 17 d.toNatClampNeg).toInt / 3 := by
    have := ti_div (m.1 17 d.toNatClampNeg) (b := 3) (by decide)
    rw [if_pos hL, z3] at this
    exact this
  intro k
  induction k with
  | zero =>
    intro fu j p h0 hj hf hp
    obtain ⟨g, rfl⟩ : ∃ g, fu = g + 1 := ⟨fu - 1, by omega⟩
    show f_Rounds_waysOfAll_6 _ x _ c carry p j = _
    unfold f_Rounds_waysOfAll_6 f_Shelf_length f_Rounds_waysOfAll_12
    rw [hS1.1, if_pos (by rw [ti_le, hdv]; omega)]
    rfl
  | succ k ih =>
    intro fu j p h0 hj hf hp
    obtain ⟨g, rfl⟩ : ∃ g, fu = g + 1 := ⟨fu - 1, by omega⟩
    have tj : (j + 1).toInt = j.toInt + 1 := by rw [ti_add]; omega
    have nj : (j + 1).toInt.toNat = j.toInt.toNat + 1 := by omega
    obtain ⟨a1, a2, a3, a4, a5⟩ := th_at hS (j := j) (t := 0) hd h50 h0 (by decide) (by omega)
    obtain ⟨b1, b2, b3, b4, b5⟩ := th_at hS (j := j) (t := 1) hd h50 h0 (by decide) (by omega)
    obtain ⟨c1, c2, c3, c4, c5⟩ := th_at hS (j := j) (t := 2) hd h50 h0 (by decide) (by omega)
    rw [add_00] at a2
    show f_Rounds_waysOfAll_6 _ x _ c carry p j = _
    unfold f_Rounds_waysOfAll_6 f_Shelf_length f_Rounds_waysOfAll_12
    rw [hS1.1, if_neg (by rw [ti_le, hdv]; omega)]
    unfold f_Rounds_waysOfAll_17
    by_cases ep : p ≤ 0
    · have e0 : p = 0 := by
        rw [← Int64.toInt_inj]
        have := Int64.le_iff_toInt_le.mp ep
        omega
      rw [if_pos ep, e0, prS_zero]; rfl
    · rw [if_neg ep]
      unfold f_Rounds_waysOfAll_24; rw [b2, Option.bind_some]
      unfold f_Rounds_waysOfAll_34 prS
      by_cases e : thS m d j 1 = c.toInt64
      · rw [if_pos e, if_pos e]
        have hw : f_Rounds_waysToBe x (thS m d j 0).toInt32 carry (spS m c) (thS m d j 2).toInt32 = some (wyS m d c carry j) := by
          rw [v_waysToBe hR _ _ (spS_03 hV hc)]
          unfold wyS
          by_cases eB : thB m d j = true
          · rw [if_pos eB, if_pos ((thB_c b5 e hc).mp eB)]
          · rw [if_neg eB, if_neg (fun z => eB ((thB_c b5 e hc).mpr z))]
        simp only [f_Rounds_waysOfAll_40, a2, Option.bind_some, f_Rounds_waysOfAll_48, v_Hole_spreadOf hR hV hc, f_Rounds_waysOfAll_65, c2, f_Rounds_waysOfAll_75, hw, f_Rounds_waysOfAll_79]
        unfold f_Rounds_waysOfAll_83
        exact ih g (j + 1) _ (by omega) (by omega) (by omega) (by rw [nj]; exact pr_step (by omega) hp (wyS_b hV hc _ _ _))
      · rw [if_neg e, if_neg e]
        unfold f_Rounds_waysOfAll_83
        refine ih g (j + 1) p (by omega) (by omega) (by omega) ⟨hp.1, ?_⟩
        rw [nj, Int.pow_succ]; omega
