/-! the class works out one place of its table -/
theorem at_row0 {n c : Int32} (hn : 0 ≤ n.toInt ∧ n.toInt ≤ 4) (hc : cellB c = true) : (n * 31 + c).toInt = 31 * n.toInt + c.toInt ∧ (31 * n + c).toInt = 31 * n.toInt + c.toInt ∧ (n * 31 + c).toNatClampNeg = 31 * n.toNatClampNeg + c.toNatClampNeg ∧ (31 * n + c).toNatClampNeg = 31 * n.toNatClampNeg + c.toNatClampNeg := by
  have h1 := cellB_iff.mp hc
  have z31 : (31 : Int32).toInt = 31 := rfl
  have e3 := ti_mul n 31
  rw [z31] at e3
  have e4 : (n * 31).toInt = 31 * n.toInt := by omega
  have e5 := ti_mul 31 n
  rw [z31] at e5
  have e6 : (31 * n).toInt = 31 * n.toInt := by omega
  have e7 := ti_add (n * 31) c
  have e8 := ti_add (31 * n) c
  rw [e4] at e7
  rw [e6] at e8
  have e9 : (n * 31 + c).toInt = 31 * n.toInt + c.toInt := by omega
  have e10 : (31 * n + c).toInt = 31 * n.toInt + c.toInt := by omega
  refine ⟨e9, e10, ?_, ?_⟩
  · rw [ti_nat, e9, ti_nat, ti_nat]; omega
  · rw [ti_nat, e10, ti_nat, ti_nat]; omega
theorem v_Hole_putt {x m : am_H} (hR : RH x m) (c : Int32) : f_Hole_puttTwelfths x c = ptS m c := by
  simp only [f_Hole_puttTwelfths_13, f_Hole_puttTwelfths_8, f_Hole_puttTwelfths, hR.pin, hR.touch, ptS]
theorem v_Hole_unplayed {x m : am_H} (hR : RH x m) (c : Int32) : f_Hole_strokesUnplayed x c = unS m c := by
  simp only [f_Hole_strokesUnplayed_6, f_Hole_strokesUnplayed, f_Hole_cellsToPin, hR.pin, unS]
theorem n_zero {n : Int32} (hn : 0 ≤ n.toInt) : n = 0 ↔ n.toNatClampNeg = 0 := by
  rw [ti_eq, ti_nat]
  have z0 : (0 : Int32).toInt = 0 := rfl
  omega
theorem rowG_n {m : am_H} {f : (Int32 → Int64) → Nat → Int32 → Int64} {n : Nat} {c : Int32} : rowG m f n c = if grB m c = true then (ptS m c).toInt64 * (Un n / 12) else if n = 0 ∨ m.1 0 6 = 0 then (unS m c).toInt64 * Un n else f (rowG m f (n - 1)) n c := by
  cases n with
  | zero => simp only [rowG, true_or, if_true]
  | succ n => simp only [rowG, Nat.succ_ne_zero, false_or, Nat.add_sub_cancel]
theorem nle64 {a b : Int64} : (if b ≤ a then (0 : Nat) else 1) = (if a < b then 1 else 0) := by
  by_cases h : a < b
  · have : ¬ b ≤ a := by rw [ti_le64]; rw [ti_lt64] at h; omega
    rw [if_pos h, if_neg this]
  · have : b ≤ a := by rw [ti_le64]; rw [ti_lt64] at h; omega
    rw [if_neg h, if_pos this]
theorem le64_iff {a b : Int64} : b ≤ a ↔ ¬ a < b := by rw [ti_le64, ti_lt64]; omega
theorem l_Reck_best {x m : am_H} (hR : RH x m) (hV : VM m) {cell n : Int32} {row : Int32 → Int64} (hc : cellB cell = true) (hn : 1 ≤ n.toInt ∧ n.toInt ≤ 4) (hrow : ∀ c, cellB c = true → x.2 13 (31 * (n.toNatClampNeg - 1) + c.toNatClampNeg) = row c) : ∀ (k f : Nat) (c b : Int32) (v : Int64), k < f → (k : Int) = (m.1 0 6).toInt - c.toInt → 0 ≤ c.toInt →
    f_Reck_workOut_93_l f x cell n b v c = f_Reck_workOut_138 x cell n (cfold (fun c a => if byC m row n.toNatClampNeg cell c < a.2 then (c, byC m row n.toNatClampNeg cell c) else a) k c (b, v)).1 (cfold (fun c a => if byC m row n.toNatClampNeg cell c < a.2 then (c, byC m row n.toNatClampNeg cell c) else a) k c (b, v)).2 := by
  have hcs := hV.2
  intro k
  induction k with
  | zero =>
    intro f c b v hf hk h0
    obtain ⟨f, rfl⟩ : ∃ j, f = j + 1 := ⟨f - 1, by omega⟩
    have e : m.1 0 6 ≤ c := by rw [ti_le]; omega
    show f_Reck_workOut_93 (f_Reck_workOut_93_l f) x cell n b v c = _
    simp only [f_Reck_workOut_93, f_Reck_workOut_102, f_Hole_clubsHeld, hR.2, if_pos e, cfold]
  | succ k ih =>
    intro f c b v hf hk h0
    obtain ⟨f, rfl⟩ : ∃ j, f = j + 1 := ⟨f - 1, by omega⟩
    have e : ¬ m.1 0 6 ≤ c := by rw [ti_le]; omega
    have e1 := ti_add c 1
    have z1 : (1 : Int32).toInt = 1 := rfl
    have z01 : ¬ (0 : Int32) = 1 := by decide
    rw [z1] at e1
    have hcl : clubB m c = true := clubB_iff.mpr (by omega)
    show f_Reck_workOut_93 (f_Reck_workOut_93_l f) x cell n b v c = _
    simp only [f_Reck_workOut_93, f_Reck_workOut_102, f_Reck_workOut_105, f_Reck_workOut_114, f_Reck_workOut_124, f_Reck_workOut_132, f_Reck_meanByClub, f_Reck_meanByClub_13, f_Hole_clubsHeld, hR.2, if_neg e, if_neg z01, v_Reck_meanBy hR hV hc hcl hn hrow, Option.bind_some]
    have i1 := fun b v => ih f (c + 1) b v (by omega) (by omega) (by omega)
    simp only [i1]
    by_cases q : byC m row n.toNatClampNeg cell c < v
    · have q2 : ¬ v ≤ byC m row n.toNatClampNeg cell c := fun z => le64_iff.mp z q
      rw [if_neg q2]
      simp only [cfold, if_pos q]
    · rw [if_pos (le64_iff.mpr q)]
      simp only [cfold, if_neg q]
theorem v_Reck_workOut0 {x m : am_H} (hR : RH x m) (hV : VM m) {cell n : Int32} (hc : cellB cell = true) (hn : 0 ≤ n.toInt ∧ n.toInt ≤ 4) (hrow : 1 ≤ n.toNatClampNeg → ∀ c, cellB c = true → x.2 13 (31 * (n.toNatClampNeg - 1) + c.toNatClampNeg) = rowG m (fB m) (n.toNatClampNeg - 1) c) :
    f_Reck_workOut x cell n 0 = some (rowG m (fB m) n.toNatClampNeg cell, if grB m cell = true ∨ n.toNatClampNeg = 0 ∨ m.1 0 6 = 0 then x else am_pI x 15 (31 * n.toNatClampNeg + cell.toNatClampNeg) (bestF m (rowG m (fB m) (n.toNatClampNeg - 1)) n.toNatClampNeg cell).1) := by
  have hcs := hV.2
  have z0 : (0 : Int32).toInt = 0 := rfl
  have z1 : (1 : Int32).toInt = 1 := rfl
  have z01 : ¬ (0 : Int32) = 1 := by decide
  rw [rowG_n]
  simp only [f_Reck_workOut, f_Reck_workOut_8, v_Hole_isGreen hR, hc, Bool.true_and, Option.bind_some]
  cases hg : grB m cell with
  | true =>
    simp only [f_Reck_workOut_11, f_Reck_workOut_19, f_Reck_workOut_24, v_Hole_putt hR, v_Reck_unit hn, Option.bind_some, if_true, true_or]
  | false =>
    simp only [f_Reck_workOut_30, f_Reck_workOut_34, f_Reck_workOut_41, f_Reck_workOut_44, f_Reck_workOut_52, f_Reck_workOut_57, f_Reck_workOut_59, f_Hole_hasNoClubs_11, f_Hole_hasNoClubs_7, f_Hole_hasNoClubs, hR.2, v_Hole_unplayed hR, v_Reck_unit hn, Option.bind_some, if_false, Bool.false_eq_true, false_or, if_neg z01]
    by_cases e0 : n = 0
    · subst e0
      simp only [nl_0, if_true, true_or]
    · have e0' : ¬ n.toNatClampNeg = 0 := fun q => e0 ((n_zero hn.1).mpr q)
      simp only [e0, e0', if_false, false_or]
      by_cases ec : m.1 0 6 = 0
      · simp only [ec, if_true]
      · have hpos : 1 ≤ (m.1 0 6).toInt := by
          have : ¬ (m.1 0 6).toInt = (0 : Int32).toInt := fun q => ec ((ti_eq _ _).mpr q)
          omega
        have hn1 : 1 ≤ n.toInt ∧ n.toInt ≤ 4 := by
          have : ¬ n.toInt = (0 : Int32).toInt := fun q => e0 ((ti_eq _ _).mpr q)
          omega
        have hrow' := hrow (by omega)
        have hcl : clubB m 0 = true := clubB_iff.mpr (by omega)
        simp only [ec, if_false, Bool.false_eq_true, f_Reck_workOut_77, f_Reck_workOut_88, f_Reck_meanByClub, f_Reck_meanByClub_13, if_neg z01, v_Reck_meanBy hR hV hc hcl hn1 hrow', Option.bind_some]
        rw [l_Reck_best hR hV hc hn1 hrow' ((m.1 0 6).toInt.toNat - 1) am_fu 1 _ _ (by unfold am_fu; omega) (by omega) (by omega)]
        obtain ⟨a1, -, a3, -⟩ := at_row0 hn hc
        have h1 := cellB_iff.mp hc
        have b1 : ¬ n * 31 + cell < 0 := by rw [ti_lt]; omega
        have z155 : (155 : Int32).toInt = 155 := rfl
        have b2 : ¬ 155 ≤ n * 31 + cell := by rw [ti_le]; omega
        have b3 : am_ok (n * 31 + cell) 155 = true := ok_of (by omega)
        simp only [f_Reck_workOut_138, f_Reck_workOut_146, f_Reck_keepBest, f_Reck_keepBest_13, f_Reck_keepBest_23, if_neg b1, if_neg b2, b3, if_true, Option.bind_some, a3]
        rfl
theorem v_Reck_workOut1 {x m : am_H} (hR : RH x m) (hV : VM m) {tk : Int32 → Int32} {cell n : Int32} (hc : cellB cell = true) (hn : 0 ≤ n.toInt ∧ n.toInt ≤ 4) (htk : x.1 16 cell.toNatClampNeg = tk cell) (htc : ¬ m.1 0 6 = 0 → clubB m (tk cell) = true) (hrow : 1 ≤ n.toNatClampNeg → ∀ c, cellB c = true → x.2 14 (31 * (n.toNatClampNeg - 1) + c.toNatClampNeg) = rowG m (fL m tk) (n.toNatClampNeg - 1) c) :
    f_Reck_workOut x cell n 1 = some (rowG m (fL m tk) n.toNatClampNeg cell, x) := by
  have hcs := hV.2
  have z0 : (0 : Int32).toInt = 0 := rfl
  rw [rowG_n]
  simp only [f_Reck_workOut, f_Reck_workOut_8, v_Hole_isGreen hR, hc, Bool.true_and, Option.bind_some]
  cases hg : grB m cell with
  | true =>
    simp only [f_Reck_workOut_11, f_Reck_workOut_19, f_Reck_workOut_24, v_Hole_putt hR, v_Reck_unit hn, Option.bind_some, if_true]
  | false =>
    simp only [f_Reck_workOut_30, f_Reck_workOut_34, f_Reck_workOut_41, f_Reck_workOut_44, f_Reck_workOut_52, f_Reck_workOut_57, f_Reck_workOut_59, f_Hole_hasNoClubs_11, f_Hole_hasNoClubs_7, f_Hole_hasNoClubs, hR.2, v_Hole_unplayed hR, v_Reck_unit hn, Option.bind_some, if_false, Bool.false_eq_true, if_true]
    by_cases e0 : n = 0
    · subst e0
      simp only [nl_0, if_true, true_or]
    · have e0' : ¬ n.toNatClampNeg = 0 := fun q => e0 ((n_zero hn.1).mpr q)
      simp only [e0, e0', if_false, false_or]
      by_cases ec : m.1 0 6 = 0
      · simp only [ec, if_true]
      · have hn1 : 1 ≤ n.toInt ∧ n.toInt ≤ 4 := by
          have : ¬ n.toInt = (0 : Int32).toInt := fun q => e0 ((ti_eq _ _).mpr q)
          omega
        have hrow' := hrow (by omega)
        have h1 := cellB_iff.mp hc
        have z31 : (31 : Int32).toInt = 31 := rfl
        have b1 : ¬ cell < 0 := by rw [ti_lt]; omega
        have b2 : ¬ 31 ≤ cell := by rw [ti_le]; omega
        simp only [ec, if_false, Bool.false_eq_true, f_Reck_workOut_64, f_Reck_workOut_71, f_Reck_workOut_76, f_Reck_lawfulClub, f_Reck_lawfulClub_4, f_Reck_lawfulClub_13, if_neg b1, if_neg b2, ok_of h1, if_true, htk, f_Reck_meanByClub, f_Reck_meanByClub_6, v_Reck_meanBy hR hV hc (htc ec) hn1 hrow', Option.bind_some]
        rfl
/-! the class's table, worked out up to the place asked for -/
def rJ (m : am_H) (f : (Int32 → Int64) → Nat → Int32 → Int64) (j : Nat) : Int64 := rowG m f (j / 31) (Int32.ofNat (j % 31))
theorem rJ_at (m : am_H) (f : (Int32 → Int64) → Nat → Int32 → Int64) {n : Nat} {c : Int32} (hc : cellB c = true) : rJ m f (31 * n + c.toNatClampNeg) = rowG m f n c := by
  have h1 := cellB_nat hc
  have h2 := cellB_iff.mp hc
  have e1 : (31 * n + c.toNatClampNeg) / 31 = n := by omega
  have e2 : (31 * n + c.toNatClampNeg) % 31 = c.toNatClampNeg := by omega
  have e3 : Int32.ofNat c.toNatClampNeg = c := by
    rw [ti_eq, Int32.toInt_ofNat_of_lt (by omega), ti_mk h2.1]
  unfold rJ
  rw [e1, e2, e3]
theorem div31 {a : Nat} (ha : a < 155) {i : Int32} (hi : i.toInt = a) : i / 31 = Int32.ofNat (a / 31) ∧ i - i / 31 * 31 = Int32.ofNat (a % 31) ∧ (Int32.ofNat (a / 31)).toInt = (a / 31 : Nat) ∧ (Int32.ofNat (a % 31)).toInt = (a % 31 : Nat) ∧ cellB (Int32.ofNat (a % 31)) = true := by
  have z31 : (31 : Int32).toInt = 31 := rfl
  have d := ti_div i (b := 31) (by decide)
  rw [if_pos (by omega), z31, hi] at d
  have e1 : (Int32.ofNat (a / 31)).toInt = (a / 31 : Nat) := Int32.toInt_ofNat_of_lt (by omega)
  have e2 : (Int32.ofNat (a % 31)).toInt = (a % 31 : Nat) := Int32.toInt_ofNat_of_lt (by omega)
  have f1 := ti_mul (i / 31) 31
  rw [z31, d] at f1
  have f2 : (i / 31 * 31).toInt = (a : Int) / 31 * 31 := by omega
  have f3 := ti_sub i (i / 31 * 31)
  rw [f2, hi] at f3
  refine ⟨by rw [ti_eq, d, e1]; omega, by rw [ti_eq, e2]; omega, e1, e2, cellB_iff.mpr (by omega)⟩
/-- what is known of the heap at place a of the walk: I holds; what lies below a and is wanted is worked out -/
theorem l_Reck_mean {m : am_H} {f : (Int32 → Int64) → Nat → Int32 → Int64} {p : Nat} {w n asked : Int32} {N A : Nat} (I : am_H → Prop) (hpos : ∀ j, j < 155 → ¬ rJ m f j = 0) (hA : asked.toInt = A) (hn : n.toInt = N) (hN : N ≤ 4) (hAN : 31 * N ≤ A ∧ A < 31 * N + 31)
    (hI : ∀ x, I x → ∀ j, j < 155 → x.2 p j = 0 ∨ x.2 p j = rJ m f j)
    (hW : ∀ x (a : Nat), a < 155 → I x → (1 ≤ a / 31 → ∀ j, j < 31 * (a / 31) → 31 * (a / 31 - 1) ≤ j → x.2 p j = rJ m f j) → ∃ x2, f_Reck_workOut x (Int32.ofNat (a % 31)) (Int32.ofNat (a / 31)) w = some (rJ m f a, x2) ∧ x2.2 p = x.2 p ∧ I (am_pL x2 p a (rJ m f a)))
    : ∀ (k fu : Nat) (i : Int32) (x : am_H), k < fu → (k : Int) = asked.toInt + 1 - i.toInt → 0 ≤ i.toInt → I x → (∀ j : Nat, (j : Int) < i.toInt → (j < 31 * N ∨ j = A) → x.2 p j = rJ m f j) →
      ∃ x2, f_Reck_mean_65_l fu x n w p 155 asked i = some (rJ m f A, x2) ∧ I x2 ∧ ∀ j, (j < 31 * N ∨ j = A) → x2.2 p j = rJ m f j := by
  intro k
  induction k with
  | zero =>
    intro fu i x hfu hk h0 hx hdone
    obtain ⟨fu, rfl⟩ : ∃ j, fu = j + 1 := ⟨fu - 1, by omega⟩
    have e : asked < i := by rw [ti_lt]; omega
    have z155 : (Int32.ofNat 155).toInt = 155 := rfl
    have b1 : ¬ Int32.ofNat 155 ≤ asked := by rw [ti_le]; omega
    have b2 : am_ok asked 155 = true := ok_of (by omega)
    have b3 : asked.toNatClampNeg = A := by rw [ti_nat]; omega
    refine ⟨x, ?_, hx, fun j hj => hdone j (by omega) hj⟩
    show f_Reck_mean_65 (f_Reck_mean_65_l fu) x n w p 155 asked i = _
    simp only [f_Reck_mean_65, f_Reck_mean_144, f_Reck_mean_152, if_pos e, if_neg b1, b2, if_true, b3, hdone A (by omega) (Or.inr rfl)]
  | succ k ih =>
    intro fu i x hfu hk h0 hx hdone
    obtain ⟨fu, rfl⟩ : ∃ j, fu = j + 1 := ⟨fu - 1, by omega⟩
    have e : ¬ asked < i := by rw [ti_lt]; omega
    have z155 : (Int32.ofNat 155).toInt = 155 := rfl
    have z31 : (31 : Int32).toInt = 31 := rfl
    have z1 : (1 : Int32).toInt = 1 := rfl
    have b1 : ¬ Int32.ofNat 155 ≤ i := by rw [ti_le]; omega
    have b2 : am_ok i 155 = true := ok_of (by omega)
    have e1 := ti_add i 1
    rw [z1] at e1
    have hi := ti_mk h0
    have n1 : ¬ (1 : Int32) = 0 := by decide
    have m1 := ti_mul n 31
    rw [z31] at m1
    have m2 : (n * 31).toInt = N * 31 := by omega
    show ∃ x2, f_Reck_mean_65 (f_Reck_mean_65_l fu) x n w p 155 asked i = some (rJ m f A, x2) ∧ I x2 ∧ ∀ j, (j < 31 * N ∨ j = A) → x2.2 p j = rJ m f j
    by_cases need : i = asked ∨ i.toInt < 31 * N
    · have hgo : f_Reck_mean_65 (f_Reck_mean_65_l fu) x n w p 155 asked i = f_Reck_mean_108 (f_Reck_mean_65_l fu) x n w p 155 asked i := by
        simp only [f_Reck_mean_65, f_Reck_mean_72, f_Reck_mean_80, f_Reck_mean_87, f_Reck_mean_96, f_Reck_mean_100, f_Reck_mean_101, if_neg e, if_neg b1, if_neg n1, if_true]
        by_cases q : i = asked
        · rw [if_pos q]
        · rw [if_neg q]
          have : ¬ n * 31 ≤ i := by rw [ti_le, m2]; have := need.resolve_left q; omega
          rw [if_neg this]
      rw [hgo]
      simp only [f_Reck_mean_108, b2, if_true]
      by_cases hz : x.2 p i.toNatClampNeg = 0
      · rw [if_pos hz]
        have ha : i.toNatClampNeg < 155 := by omega
        obtain ⟨d1, d2, d3, d4, d5⟩ := div31 ha (i := i) (by omega)
        obtain ⟨x2, w1, w2, w3⟩ := hW x i.toNatClampNeg ha hx (fun h1 j h2 h3 => hdone j (by omega) (by omega))
        have hst : f_Reck_mean_118 (f_Reck_mean_65_l fu) x n w p 155 asked i = f_Reck_mean_65_l fu (am_pL x2 p i.toNatClampNeg (rJ m f i.toNatClampNeg)) n w p 155 asked (i + 1) := by
          simp only [f_Reck_mean_118, f_Reck_mean_137, f_Reck_mean_138]
          rw [d2, d1, w1]
          simp only [Option.bind_some, b2, if_true]
        rw [hst]
        refine ih fu (i + 1) _ (by omega) (by omega) (by omega) w3 (fun j h1 h2 => ?_)
        rw [hL2]
        by_cases q : j = i.toNatClampNeg
        · rw [if_pos ⟨rfl, q⟩, q]
        · rw [if_neg (fun z => q z.2), w2]; exact hdone j (by omega) h2
      · rw [if_neg hz]
        simp only [f_Reck_mean_138]
        refine ih fu (i + 1) x (by omega) (by omega) (by omega) hx (fun j h1 h2 => ?_)
        by_cases q : j = i.toNatClampNeg
        · rw [q]; exact (hI x hx _ (by omega)).resolve_left hz
        · exact hdone j (by omega) h2
    · have hgo : f_Reck_mean_65 (f_Reck_mean_65_l fu) x n w p 155 asked i = f_Reck_mean_65_l fu x n w p 155 asked (i + 1) := by
        have q1 : ¬ i = asked := fun q => need (Or.inl q)
        have q2 : n * 31 ≤ i := by rw [ti_le, m2]; have := fun q => need (Or.inr q); omega
        simp only [f_Reck_mean_65, f_Reck_mean_72, f_Reck_mean_80, f_Reck_mean_87, f_Reck_mean_100, f_Reck_mean_101, f_Reck_mean_138, if_neg e, if_neg b1, if_neg q1, if_pos q2, if_true]
      rw [hgo]
      refine ih fu (i + 1) x (by omega) (by omega) (by omega) hx (fun j h1 h2 => ?_)
      by_cases q : j = i.toNatClampNeg
      · exfalso
        rcases h2 with h2 | h2
        · exact need (Or.inr (by omega))
        · exact need (Or.inl (by rw [ti_eq]; omega))
      · exact hdone j (by omega) h2
