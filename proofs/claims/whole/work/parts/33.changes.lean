/-! MEND, UNDO, REDO -/
/-- the bounds of the numbers that a word tells -/
def wlo (w : Int32) : Int := if w = 4 then 1 else if w = 5 then -3 else 0
def whi (w : Int32) : Int := if w = 0 then 4 else if w = 1 then 30 else if w = 2 then 3 else if w = 3 then 9 else if w = 4 then 29 else if w = 5 then 3 else 12
theorem wh_9 {w : Int32} (h0 : 0 ≤ w.toInt) (h8 : w.toInt ≤ 8) : w = 0 ∨ w = 1 ∨ w = 2 ∨ w = 3 ∨ w = 4 ∨ w = 5 ∨ w = 6 ∨ w = 7 ∨ w = 8 := by
  simp only [ti_eq]
  have z0 : (0 : Int32).toInt = 0 := rfl
  have z1 : (1 : Int32).toInt = 1 := rfl
  have z2 : (2 : Int32).toInt = 2 := rfl
  have z3 : (3 : Int32).toInt = 3 := rfl
  have z4 : (4 : Int32).toInt = 4 := rfl
  have z5 : (5 : Int32).toInt = 5 := rfl
  have z6 : (6 : Int32).toInt = 6 := rfl
  have z7 : (7 : Int32).toInt = 7 := rfl
  have z8 : (8 : Int32).toInt = 8 := rfl
  omega
theorem v_isWithin (w v a b : Int32) (h0 : ¬ w < 0) (h9 : ¬ 9 ≤ w) (hk : am_ok w 9 = true) (ha : tv_LEAST w = a) (hb : tv_MOST w = b) : f_Hole_isWithin w v = some (decide (a.toInt ≤ v.toInt ∧ v.toInt ≤ b.toInt)) := by
  simp only [f_Hole_isWithin_42, f_Hole_isWithin_38, f_Hole_isWithin_29, f_Hole_isWithin_20, f_Hole_isWithin_12, f_Hole_isWithin_4, f_Hole_isWithin, if_neg h0, if_neg h9, hk, if_true, ha, hb]
  by_cases h1 : v < a
  · rw [if_pos h1]; rw [ti_lt] at h1; congr 1; symm; rw [decide_eq_false_iff_not]; omega
  · rw [if_neg h1]; rw [ti_lt] at h1
    by_cases h2 : b < v
    · rw [if_pos h2]; rw [ti_lt] at h2; congr 1; symm; rw [decide_eq_false_iff_not]; omega
    · rw [if_neg h2]; rw [ti_lt] at h2; congr 1; symm; rw [decide_eq_true_iff]; omega
/-- the class and the model allow the same numbers -/
theorem v_allows {x m : am_H} (hR : RH x m) (hV : VM m) {w v : Int32} (h0 : 0 ≤ w.toInt) (h8 : w.toInt ≤ 8) :
    f_Hole_allows x w v = some (f_Model_mayBecome m w v) ∧ (f_Model_mayBecome m w v = true → wlo w ≤ v.toInt ∧ v.toInt ≤ whi w) := by
  have hb := hV.1 52 (by decide)
  have hr := hV.1 53 (by decide)
  simp only [vlo, vhi] at hb hr
  have kb : (52 : Int32).toNatClampNeg = 52 := rfl
  have kr : (53 : Int32).toNatClampNeg = 53 := rfl
  rcases wh_9 h0 h8 with e | e | e | e | e | e | e | e | e <;> subst e
  · simp only [f_Hole_allows_41, f_Hole_allows_36, f_Hole_allows_34, f_Hole_allows_23, f_Hole_allows_17, f_Hole_allows_6, f_Hole_allows, f_Model_mayBecome_57, f_Model_mayBecome_48, f_Model_mayBecome_67, f_Model_mayBecome_58, f_Model_mayBecome_77, f_Model_mayBecome_68, f_Model_mayBecome_87, f_Model_mayBecome_78, f_Model_mayBecome_97, f_Model_mayBecome_88, f_Model_mayBecome_109, f_Model_mayBecome_98, f_Model_mayBecome_119, f_Model_mayBecome_110, f_Model_mayBecome_137, f_Model_mayBecome_120, f_Model_mayBecome_155, f_Model_mayBecome_138, f_Model_mayBecome, v_Model_within32, v_isWithin 0 v 0 4 (by decide) (by decide) (by decide) (by decide) (by decide), Option.bind_some]
    exact ⟨rfl, fun h => of_decide_eq_true h⟩
  · simp only [f_Hole_allows_41, f_Hole_allows_36, f_Hole_allows_34, f_Hole_allows_23, f_Hole_allows_17, f_Hole_allows_6, f_Hole_allows, f_Model_mayBecome_57, f_Model_mayBecome_48, f_Model_mayBecome_67, f_Model_mayBecome_58, f_Model_mayBecome_77, f_Model_mayBecome_68, f_Model_mayBecome_87, f_Model_mayBecome_78, f_Model_mayBecome_97, f_Model_mayBecome_88, f_Model_mayBecome_109, f_Model_mayBecome_98, f_Model_mayBecome_119, f_Model_mayBecome_110, f_Model_mayBecome_137, f_Model_mayBecome_120, f_Model_mayBecome_155, f_Model_mayBecome_138, f_Model_mayBecome, v_Model_within32, v_isWithin 1 v 0 30 (by decide) (by decide) (by decide) (by decide) (by decide), Option.bind_some]
    exact ⟨rfl, fun h => of_decide_eq_true h⟩
  · simp only [f_Hole_allows_41, f_Hole_allows_36, f_Hole_allows_34, f_Hole_allows_23, f_Hole_allows_17, f_Hole_allows_6, f_Hole_allows, f_Model_mayBecome_57, f_Model_mayBecome_48, f_Model_mayBecome_67, f_Model_mayBecome_58, f_Model_mayBecome_77, f_Model_mayBecome_68, f_Model_mayBecome_87, f_Model_mayBecome_78, f_Model_mayBecome_97, f_Model_mayBecome_88, f_Model_mayBecome_109, f_Model_mayBecome_98, f_Model_mayBecome_119, f_Model_mayBecome_110, f_Model_mayBecome_137, f_Model_mayBecome_120, f_Model_mayBecome_155, f_Model_mayBecome_138, f_Model_mayBecome, v_Model_within32, v_isWithin 2 v 0 3 (by decide) (by decide) (by decide) (by decide) (by decide), Option.bind_some]
    exact ⟨rfl, fun h => of_decide_eq_true h⟩
  · simp only [f_Hole_allows_41, f_Hole_allows_36, f_Hole_allows_34, f_Hole_allows_23, f_Hole_allows_17, f_Hole_allows_6, f_Hole_allows, f_Model_mayBecome_57, f_Model_mayBecome_48, f_Model_mayBecome_67, f_Model_mayBecome_58, f_Model_mayBecome_77, f_Model_mayBecome_68, f_Model_mayBecome_87, f_Model_mayBecome_78, f_Model_mayBecome_97, f_Model_mayBecome_88, f_Model_mayBecome_109, f_Model_mayBecome_98, f_Model_mayBecome_119, f_Model_mayBecome_110, f_Model_mayBecome_137, f_Model_mayBecome_120, f_Model_mayBecome_155, f_Model_mayBecome_138, f_Model_mayBecome, v_Model_within32, v_isWithin 3 v 0 9 (by decide) (by decide) (by decide) (by decide) (by decide), Option.bind_some]
    exact ⟨rfl, fun h => of_decide_eq_true h⟩
  · simp only [f_Hole_allows_41, f_Hole_allows_36, f_Hole_allows_34, f_Hole_allows_23, f_Hole_allows_17, f_Hole_allows_6, f_Hole_allows, f_Model_mayBecome_57, f_Model_mayBecome_48, f_Model_mayBecome_67, f_Model_mayBecome_58, f_Model_mayBecome_77, f_Model_mayBecome_68, f_Model_mayBecome_87, f_Model_mayBecome_78, f_Model_mayBecome_97, f_Model_mayBecome_88, f_Model_mayBecome_109, f_Model_mayBecome_98, f_Model_mayBecome_119, f_Model_mayBecome_110, f_Model_mayBecome_137, f_Model_mayBecome_120, f_Model_mayBecome_155, f_Model_mayBecome_138, f_Model_mayBecome, v_Model_within32, v_isWithin 4 v 1 29 (by decide) (by decide) (by decide) (by decide) (by decide), Option.bind_some]
    exact ⟨rfl, fun h => of_decide_eq_true h⟩
  · simp only [f_Hole_allows_41, f_Hole_allows_36, f_Hole_allows_34, f_Hole_allows_23, f_Hole_allows_17, f_Hole_allows_6, f_Hole_allows, f_Model_mayBecome_57, f_Model_mayBecome_48, f_Model_mayBecome_67, f_Model_mayBecome_58, f_Model_mayBecome_77, f_Model_mayBecome_68, f_Model_mayBecome_87, f_Model_mayBecome_78, f_Model_mayBecome_97, f_Model_mayBecome_88, f_Model_mayBecome_109, f_Model_mayBecome_98, f_Model_mayBecome_119, f_Model_mayBecome_110, f_Model_mayBecome_137, f_Model_mayBecome_120, f_Model_mayBecome_155, f_Model_mayBecome_138, f_Model_mayBecome, v_Model_within32, v_isWithin 5 v (-3) 3 (by decide) (by decide) (by decide) (by decide) (by decide), Option.bind_some]
    exact ⟨rfl, fun h => of_decide_eq_true h⟩
  · simp only [f_Hole_allows_41, f_Hole_allows_36, f_Hole_allows_34, f_Hole_allows_23, f_Hole_allows_17, f_Hole_allows_6, f_Hole_allows, f_Model_mayBecome_57, f_Model_mayBecome_48, f_Model_mayBecome_67, f_Model_mayBecome_58, f_Model_mayBecome_77, f_Model_mayBecome_68, f_Model_mayBecome_87, f_Model_mayBecome_78, f_Model_mayBecome_97, f_Model_mayBecome_88, f_Model_mayBecome_109, f_Model_mayBecome_98, f_Model_mayBecome_119, f_Model_mayBecome_110, f_Model_mayBecome_137, f_Model_mayBecome_120, f_Model_mayBecome_155, f_Model_mayBecome_138, f_Model_mayBecome, v_Model_within32, v_isWithin 6 v 0 12 (by decide) (by decide) (by decide) (by decide) (by decide), Option.bind_some]
    exact ⟨rfl, fun h => of_decide_eq_true h⟩
  · simp only [f_Hole_allows_41, f_Hole_allows_36, f_Hole_allows_34, f_Hole_allows_23, f_Hole_allows_17, f_Hole_allows_6, f_Hole_allows, f_Model_mayBecome_57, f_Model_mayBecome_48, f_Model_mayBecome_67, f_Model_mayBecome_58, f_Model_mayBecome_77, f_Model_mayBecome_68, f_Model_mayBecome_87, f_Model_mayBecome_78, f_Model_mayBecome_97, f_Model_mayBecome_88, f_Model_mayBecome_109, f_Model_mayBecome_98, f_Model_mayBecome_119, f_Model_mayBecome_110, f_Model_mayBecome_137, f_Model_mayBecome_120, f_Model_mayBecome_155, f_Model_mayBecome_138, f_Model_mayBecome, v_Model_within32, v_isWithin 7 v 0 12 (by decide) (by decide) (by decide) (by decide) (by decide), Option.bind_some, hR.risk, ti_wide]
    have t : (12 - m.1 1 ((53 : Int32).toNatClampNeg)).toInt = 12 - (m.1 1 53).toInt := by
      rw [ti_sub]
      have z12 : (12 : Int32).toInt = 12 := rfl
      show (_ - (m.1 1 53).toInt + 2147483648) % 4294967296 - 2147483648 = _
      omega
    have t' : (12 - m.1 1 53).toInt = 12 - (m.1 1 53).toInt := t
    rw [t]
    show (if (12 - m.1 1 53) < v then some false else some (decide ((0 : Int32).toInt ≤ v.toInt ∧ v.toInt ≤ (12 : Int32).toInt))) = some (decide ((0 : Int64).toInt ≤ v.toInt ∧ v.toInt ≤ 12 - (m.1 1 53).toInt)) ∧ ((decide ((0 : Int64).toInt ≤ v.toInt ∧ v.toInt ≤ 12 - (m.1 1 53).toInt)) = true → (0 : Int) ≤ v.toInt ∧ v.toInt ≤ 12)
    have z0 : (0 : Int32).toInt = 0 := rfl
    have z12 : (12 : Int32).toInt = 12 := rfl
    have y0 : (0 : Int64).toInt = 0 := rfl
    have hq : 0 ≤ (m.1 1 53).toInt ∧ (m.1 1 53).toInt ≤ 12 := hr
    refine ⟨?_, fun h => by have h := of_decide_eq_true h; omega⟩
    split
    · rename_i q
      first | rw [ti_lt] at q | rw [ti_le] at q
      congr 1
      first
        | (symm; rw [decide_eq_false_iff_not]; omega)
        | (rw [decide_eq_decide]; omega)
    · rename_i q
      first | rw [ti_lt] at q | rw [ti_le] at q
      congr 1
      first
        | (symm; rw [decide_eq_false_iff_not]; omega)
        | (rw [decide_eq_decide]; omega)
  · simp only [f_Hole_allows_41, f_Hole_allows_36, f_Hole_allows_34, f_Hole_allows_23, f_Hole_allows_17, f_Hole_allows_6, f_Hole_allows, f_Model_mayBecome_57, f_Model_mayBecome_48, f_Model_mayBecome_67, f_Model_mayBecome_58, f_Model_mayBecome_77, f_Model_mayBecome_68, f_Model_mayBecome_87, f_Model_mayBecome_78, f_Model_mayBecome_97, f_Model_mayBecome_88, f_Model_mayBecome_109, f_Model_mayBecome_98, f_Model_mayBecome_119, f_Model_mayBecome_110, f_Model_mayBecome_137, f_Model_mayBecome_120, f_Model_mayBecome_155, f_Model_mayBecome_138, f_Model_mayBecome, v_Model_within32, v_isWithin 8 v 0 12 (by decide) (by decide) (by decide) (by decide) (by decide), Option.bind_some, hR.bold, ti_wide]
    have t : (12 - m.1 1 ((52 : Int32).toNatClampNeg)).toInt = 12 - (m.1 1 52).toInt := by
      rw [ti_sub]
      have z12 : (12 : Int32).toInt = 12 := rfl
      show (_ - (m.1 1 52).toInt + 2147483648) % 4294967296 - 2147483648 = _
      omega
    have t' : (12 - m.1 1 52).toInt = 12 - (m.1 1 52).toInt := t
    rw [t]
    show (if v ≤ (12 - m.1 1 52) then some (decide ((0 : Int32).toInt ≤ v.toInt ∧ v.toInt ≤ (12 : Int32).toInt)) else some false) = some (decide ((0 : Int64).toInt ≤ v.toInt ∧ v.toInt ≤ 12 - (m.1 1 52).toInt)) ∧ ((decide ((0 : Int64).toInt ≤ v.toInt ∧ v.toInt ≤ 12 - (m.1 1 52).toInt)) = true → (0 : Int) ≤ v.toInt ∧ v.toInt ≤ 12)
    have z0 : (0 : Int32).toInt = 0 := rfl
    have z12 : (12 : Int32).toInt = 12 := rfl
    have y0 : (0 : Int64).toInt = 0 := rfl
    have hq : 0 ≤ (m.1 1 52).toInt ∧ (m.1 1 52).toInt ≤ 12 := hb
    refine ⟨?_, fun h => by have h := of_decide_eq_true h; omega⟩
    split
    · rename_i q
      first | rw [ti_lt] at q | rw [ti_le] at q
      congr 1
      first
        | (symm; rw [decide_eq_false_iff_not]; omega)
        | (rw [decide_eq_decide]; omega)
    · rename_i q
      first | rw [ti_lt] at q | rw [ti_le] at q
      congr 1
      first
        | (symm; rw [decide_eq_false_iff_not]; omega)
        | (rw [decide_eq_decide]; omega)
theorem xp_inj {p q : Nat} (hp : p < 54) (hq : q < 54) (h : xp p = xp q) : p = q := by
  unfold xp at h
  repeat' split at h
  all_goals simp only [Prod.mk.injEq] at h
  all_goals omega
theorem xp_14 {p : Nat} (hp : p < 54) : ¬ ((1 : Nat) = (xp p).1 ∧ (4 : Nat) = (xp p).2) := by
  unfold xp
  repeat' split
  all_goals simp only
  all_goals omega
theorem xp_in {p : Nat} (hp : p < 54) : (xp p).1 ∈ [1, 2, 3, 4, 5] := by
  unfold xp
  repeat' split
  all_goals simp
theorem RH.put {x m : am_H} (h : RH x m) {p : Nat} (hp : p < 54) (v : Int32) : RH (am_pI x (xp p).1 (xp p).2 v) (am_pI m 1 p v) := by
  refine ⟨fun q hq => ?_, ?_⟩
  · rw [hI1, hI1]
    by_cases e : q = p
    · subst e; simp
    · rw [if_neg (fun z => e (xp_inj hq hp (Prod.ext z.1 z.2))), if_neg (fun z => e z.2)]
      exact h.1 q hq
  · rw [hI1, hI1, if_neg (xp_14 hp), if_neg (by simp)]
    exact h.2
theorem VM.put {m : am_H} (h : VM m) {p : Nat} {v : Int32} (hv : vlo p ≤ v.toInt ∧ v.toInt ≤ vhi p) : VM (am_pI m 1 p v) := by
  refine ⟨fun i hi => ?_, ?_⟩
  · rw [hI1]
    by_cases e : i = p
    · subst e; simpa using hv
    · rw [if_neg (fun z => e z.2)]; exact h.1 i hi
  · rw [hI1, if_neg (by simp)]; exact h.2
theorem v_alter {x m : am_H} (hR : RH x m) (hV : VM m) (hF : KF x) {n w v : Int32} (hp : 0 ≤ (plS m n w).toInt) (hv : vlo (plS m n w).toNatClampNeg ≤ v.toInt ∧ v.toInt ≤ vhi (plS m n w).toNatClampNeg) :
    ∃ x2, f_Club_alter x n w v = some x2 ∧ RH x2 (am_pI m 1 (plS m n w).toNatClampNeg v) ∧ VM (am_pI m 1 (plS m n w).toNatClampNeg v) ∧ KZ x2 ∧ KF x2 ∧ sx [1, 2, 3, 4, 5, 12, 13, 14] x x2 ∧ x2.1 12 11 = x.1 12 11 := by
  rcases pl_at hR hV n w with ⟨a, b⟩ | ⟨a, b, c, d, e, f, g, -, -⟩
  · rw [a] at hp; exact absurd hp (by decide)
  · have hq : (plS m n w).toNatClampNeg < 54 := by rw [ti_nat]; omega
    generalize (plS m n w).toNatClampNeg = p at *
    have hin := xp_in hq
    have hs : sx [1, 2, 3, 4, 5] x (am_pI x (xp p).1 (xp p).2 v) := sx.pI _ _ _ _ hin
    have e12 := hs 12 (by decide)
    have e13 := hs 13 (by decide)
    have e14 := hs 14 (by decide)
    have hF1 : KF (am_pI x (xp p).1 (xp p).2 v) := by unfold KF; rw [e12.1, e13.2, e14.2]; exact hF
    obtain ⟨x2, b1, b2, b3, b4, b5⟩ := v_forget hF1
    refine ⟨x2, ?_, (hR.put hq v).fx b4 (by decide), hV.put hv, b2, b3, (hs.mono (by simp)).tr (b4.mono (by simp)), ?_⟩
    · simp only [f_Club_alter_17, f_Club_alter_10, f_Club_alter, g, Option.bind_some, b1]
    · rw [b5, e12.1]
/-- the changes that both remember -/
def RC (x m : am_H) : Prop := x.1 22 4 = m.1 0 5 ∧ (m.1 0 4).toInt = (m.1 0 5).toInt + (x.1 22 5).toInt ∧ 0 ≤ (m.1 0 5).toInt ∧ 0 ≤ (x.1 22 5).toInt ∧ (m.1 0 4).toInt ≤ 40 ∧
  ∀ i : Nat, (i : Int) < (m.1 0 4).toInt → plS m (x.1 23 i) (x.1 24 i) = m.1 2 i ∧ 0 ≤ (m.1 2 i).toInt ∧ (m.1 2 i).toInt < 54 ∧ x.1 25 i = m.1 3 i ∧ x.1 26 i = m.1 4 i ∧
    (vlo (m.1 2 i).toNatClampNeg ≤ (m.1 3 i).toInt ∧ (m.1 3 i).toInt ≤ vhi (m.1 2 i).toNatClampNeg) ∧ (vlo (m.1 2 i).toNatClampNeg ≤ (m.1 4 i).toInt ∧ (m.1 4 i).toInt ≤ vhi (m.1 2 i).toNatClampNeg)
theorem clubB_c {m m2 : am_H} (e6 : m2.1 0 6 = m.1 0 6) : clubB m2 = clubB m := by
  funext n; unfold clubB; rw [e6]
theorem plS_c {m m2 : am_H} (hV : VM m) (hV2 : VM m2) (e6 : m2.1 0 6 = m.1 0 6) (n w : Int32) : plS m2 n w = plS m n w := by
  rw [plS_eq hV, plS_eq hV2, clubB_c e6]
theorem n_one (i : Nat) (h : i < 40) : ((Int32.ofNat i).toInt = i) := Int32.toInt_ofNat_of_lt (by omega)
theorem l_becomes (x1 x2 x3 : Int32) : ∀ (k fu : Nat) (m : am_H) (i : Int32), k < fu → k ≤ 39 → i.toInt = 40 - (k : Int) →
    ∃ m2, f_Model_becomes_26_l fu m x1 x2 x3 i = f_Model_becomes_87 m2 x1 x2 x3 ∧ (∀ r, r = 2 ∨ r = 3 ∨ r = 4 → ∀ j, m2.1 r j = if 39 - k ≤ j ∧ j < 39 then m.1 r (j + 1) else m.1 r j) ∧ sm [] [2, 3, 4] m m2 := by
  have z40 : (40 : Int32).toInt = 40 := rfl
  have z1 : (1 : Int32).toInt = 1 := rfl
  intro k
  induction k with
  | zero =>
    intro fu m i hf hk hi
    obtain ⟨f, rfl⟩ : ∃ f, fu = f + 1 := ⟨fu - 1, by omega⟩
    have q : (40 : Int32) ≤ i := by rw [ti_le]; omega
    refine ⟨m, ?_, fun r _ j => by rw [if_neg (by omega)], sm.rf _ _ _⟩
    show f_Model_becomes_26 _ m x1 x2 x3 i = _
    unfold f_Model_becomes_26; rw [if_pos q]
  | succ k ih =>
    intro fu m i hf hk hi
    obtain ⟨f, rfl⟩ : ∃ f, fu = f + 1 := ⟨fu - 1, by omega⟩
    have q : ¬ (40 : Int32) ≤ i := by rw [ti_le]; omega
    have hi1 : (i - 1).toInt = i.toInt - 1 := by rw [ti_sub]; omega
    have hi2 : (i + 1).toInt = i.toInt + 1 := by rw [ti_add]; omega
    have n0 : i.toNatClampNeg = 39 - k := by rw [ti_nat]; omega
    have n1 : (i - 1).toNatClampNeg = 38 - k := by rw [ti_nat]; omega
    obtain ⟨m2, a1, a2, a3⟩ := ih f (am_pI (am_pI (am_pI m 2 (i - 1).toNatClampNeg (m.1 2 i.toNatClampNeg)) 3 (i - 1).toNatClampNeg (m.1 3 i.toNatClampNeg)) 4 (i - 1).toNatClampNeg (m.1 4 i.toNatClampNeg)) (i + 1) (by omega) (by omega) (by omega)
    refine ⟨m2, ?_, fun r hr j => ?_, (((sm.pI _ 2 _ _ (by decide) (by simp)).tr (sm.pI _ 3 _ _ (by decide) (by simp))).tr (sm.pI _ 4 _ _ (by decide) (by simp))).tr a3⟩
    · rw [← a1]
      show f_Model_becomes_26 _ m x1 x2 x3 i = _
      unfold f_Model_becomes_26; rw [if_neg q]
      unfold f_Model_becomes_33
      rw [if_pos (ok_of (by omega)), if_pos (ok_of (by omega))]
      rfl
    · rw [a2 r hr j]
      simp only [hI1, n0, n1]
      rcases hr with e | e | e <;> subst e <;> simp only [Nat.reduceEqDiff, false_and, true_and, if_false]
      all_goals
        by_cases c1 : j = 38 - k
        · rw [if_neg (by omega), if_pos c1, if_pos (by omega), c1, (by omega : 38 - k + 1 = 39 - k)]
        · rw [if_neg c1]
          by_cases c2 : 39 - k ≤ j ∧ j < 39
          · rw [if_pos c2, if_neg (by omega), if_pos (by omega)]
          · rw [if_neg c2, if_neg (by omega)]
/-- the number of changes before the new one, and by how many places the old ones moved -/
def chD (m : am_H) : Nat := if m.1 0 5 = 40 then 39 else (m.1 0 5).toInt.toNat
def chS (m : am_H) : Nat := if m.1 0 5 = 40 then 1 else 0
theorem ok_39 : am_ok 39 40 = true := by decide
theorem v_becomes_97 {m : am_H} (h0 : 0 ≤ (m.1 0 5).toInt) (h1 : (m.1 0 5).toInt < 40) {p v old : Int32} (hp : 0 ≤ p.toInt ∧ p.toInt < 54) :
    ∃ m2, f_Model_becomes_97 m p v old = some (old, m2) ∧ (m2.1 0 5).toInt = (m.1 0 5).toInt + 1 ∧ m2.1 0 4 = m2.1 0 5 ∧
      m2.1 2 (m.1 0 5).toInt.toNat = p ∧ m2.1 3 (m.1 0 5).toInt.toNat = old ∧ m2.1 4 (m.1 0 5).toInt.toNat = v ∧ (∀ r, r = 2 ∨ r = 3 ∨ r = 4 → ∀ j, j < (m.1 0 5).toInt.toNat → m2.1 r j = m.1 r j) ∧
      m2.1 1 = (am_pI m 1 p.toNatClampNeg v).1 1 ∧ sm [4, 5] [1, 2, 3, 4] m m2 := by
  have ok := ok_of (i := m.1 0 5) (n := 40) ⟨h0, h1⟩
  have okp := ok_of (i := p) (n := 54) hp
  have z1 : (1 : Int32).toInt = 1 := rfl
  refine ⟨am_pI (am_pI (am_pI (am_pI (am_pI (am_pI m 2 (m.1 0 5).toNatClampNeg p) 3 (m.1 0 5).toNatClampNeg old) 4 (m.1 0 5).toNatClampNeg v) 0 5 (m.1 0 5 + 1)) 0 4 (m.1 0 5 + 1)) 1 p.toNatClampNeg v, ?_, ?_, ?_, ?_, ?_, ?_, ?_, ?_, ?_⟩
  · unfold f_Model_becomes_97
    simp only [hI1, Nat.reduceEqDiff, false_and, true_and, and_true, and_false, and_self, if_false, if_true, ok, okp]
  · simp only [hI1, Nat.reduceEqDiff, false_and, true_and, and_true, and_false, and_self, if_false, if_true]
    rw [ti_add]; omega
  · simp only [hI1, Nat.reduceEqDiff, false_and, true_and, and_true, and_false, and_self, if_false, if_true]
  · simp [hI1]
  · simp [hI1]
  · simp [hI1]
  · intro r hr j hj
    rcases hr with e | e | e <;> subst e
    all_goals
      simp only [hI1, Nat.reduceEqDiff, false_and, true_and, if_false]
      rw [if_neg (by rw [ti_nat]; omega)]
  · funext j
    simp [hI1]
  · exact ((((((sm.pI _ 2 _ _ (by decide) (by simp)).tr (sm.pI _ 3 _ _ (by decide) (by simp))).tr (sm.pI _ 4 _ _ (by decide) (by simp))).tr (sm.p0 _ _ _ (by simp))).tr (sm.p0 _ _ _ (by simp))).tr (sm.pI _ 1 _ _ (by decide) (by simp)))
theorem v_becomes {m : am_H} (h0 : 0 ≤ (m.1 0 5).toInt) (h1 : (m.1 0 5).toInt ≤ 40) {p v : Int32} (hp : 0 ≤ p.toInt ∧ p.toInt < 54) (hv : ¬ m.1 1 p.toNatClampNeg = v) :
    ∃ m2, f_Model_becomes m p v = some (m.1 1 p.toNatClampNeg, m2) ∧ (m2.1 0 5).toInt = chD m + 1 ∧ m2.1 0 4 = m2.1 0 5 ∧
      m2.1 2 (chD m) = p ∧ m2.1 3 (chD m) = m.1 1 p.toNatClampNeg ∧ m2.1 4 (chD m) = v ∧ (∀ r, r = 2 ∨ r = 3 ∨ r = 4 → ∀ j, j < chD m → m2.1 r j = m.1 r (j + chS m)) ∧
      m2.1 1 = (am_pI m 1 p.toNatClampNeg v).1 1 ∧ sm [4, 5] [1, 2, 3, 4] m m2 := by
  have okp := ok_of (i := p) (n := 54) hp
  have z40 : (40 : Int32).toInt = 40 := rfl
  have z1 : (1 : Int32).toInt = 1 := rfl
  unfold f_Model_becomes
  rw [if_pos okp, if_neg hv]
  unfold f_Model_becomes_14 chD chS
  by_cases e : m.1 0 5 = 40
  · simp only [if_pos e]
    obtain ⟨m1, a1, a2, a3⟩ := l_becomes p v (m.1 1 p.toNatClampNeg) 39 am_fu m 1 (by unfold am_fu; omega) (by omega) (by decide)
    have e5 : m1.1 0 5 = 40 := by rw [a3.1 5 (by simp), e]
    have e5' : (am_pI m1 0 5 (m1.1 0 5 - 1)).1 0 5 = 39 := by rw [hI1, if_pos ⟨rfl, rfl⟩, e5]; rfl
    obtain ⟨m2, b1, b2, b3, b4, b5, b6, b7, b8, b9⟩ := v_becomes_97 (m := am_pI m1 0 5 (m1.1 0 5 - 1)) (p := p) (v := v) (old := m.1 1 p.toNatClampNeg) (by rw [e5']; decide) (by rw [e5']; decide) hp
    rw [e5'] at b2 b4 b5 b6 b7
    refine ⟨m2, ?_, ?_, b3, b4, b5, b6, fun r hr j hj => ?_, ?_, ?_⟩
    · unfold f_Model_becomes_23; rw [a1]; unfold f_Model_becomes_87; exact b1
    · rw [b2]; rfl
    · rw [b7 r hr j hj, hI1, if_neg (by omega), a2 r hr j, if_pos (by omega)]
    · rw [b8]
      have q := (a3.2.2 1 (by decide) (by simp)).1
      funext j
      simp only [hI1, Nat.reduceEqDiff, false_and, true_and, if_false]
      rw [q]
    · exact ((a3.mono (by simp) (by simp)).tr (sm.p0 _ _ _ (by simp))).tr b9
  · simp only [if_neg e]
    have e' : ¬ (m.1 0 5).toInt = 40 := fun z => e ((ti_eq _ _).mpr (by rw [z40]; exact z))
    obtain ⟨m2, b1, b2, b3, b4, b5, b6, b7, b8, b9⟩ := v_becomes_97 (m := m) (p := p) (v := v) (old := m.1 1 p.toNatClampNeg) h0 (by omega) hp
    exact ⟨m2, b1, by rw [b2]; omega, b3, b4, b5, b6, fun r hr j hj => by rw [b7 r hr j hj]; rfl, b8, b9⟩
theorem v_remember {x : am_H} (h0 : 0 ≤ (x.1 22 4).toInt) (h1 : (x.1 22 4).toInt ≤ 40) (n w old v : Int32) (m : am_H) (hm : x.1 22 4 = m.1 0 5) :
    ∃ x2, f_Changes_remember x n w old v = some x2 ∧ (x2.1 22 4).toInt = chD m + 1 ∧ x2.1 22 5 = 0 ∧ x2.1 23 (chD m) = n ∧ x2.1 24 (chD m) = w ∧ x2.1 25 (chD m) = old ∧ x2.1 26 (chD m) = v ∧
      (∀ r, r = 23 ∨ r = 24 ∨ r = 25 ∨ r = 26 → ∀ j, j < chD m → x2.1 r j = x.1 r (j + chS m)) ∧ sx [22, 23, 24, 25, 26] x x2 ∧ (∀ i, i ≠ 4 → i ≠ 5 → x2.1 22 i = x.1 22 i) := by
  have z40 : (40 : Int32).toInt = 40 := rfl
  have z1 : (1 : Int32).toInt = 1 := rfl
  have key : ∀ y : am_H, 0 ≤ (y.1 22 4).toInt → (y.1 22 4).toInt < 40 → ∃ x2, f_Changes_remember_13 y n w old v = some x2 ∧ (x2.1 22 4).toInt = (y.1 22 4).toInt + 1 ∧ x2.1 22 5 = 0 ∧ x2.1 23 (y.1 22 4).toInt.toNat = n ∧ x2.1 24 (y.1 22 4).toInt.toNat = w ∧ x2.1 25 (y.1 22 4).toInt.toNat = old ∧ x2.1 26 (y.1 22 4).toInt.toNat = v ∧
      (∀ r, r = 23 ∨ r = 24 ∨ r = 25 ∨ r = 26 → ∀ j, j < (y.1 22 4).toInt.toNat → x2.1 r j = y.1 r j) ∧ sx [22, 23, 24, 25, 26] y x2 ∧ (∀ i, i ≠ 4 → i ≠ 5 → x2.1 22 i = y.1 22 i) := by
    intro y k0 k1
    have ok := ok_of (i := y.1 22 4) (n := 40) ⟨k0, k1⟩
    have q1 : ¬ y.1 22 4 < 0 := by rw [ti_lt]; exact Int.not_lt.mpr k0
    have q2 : y.1 22 4 < 40 := by rw [ti_lt]; exact k1
    refine ⟨am_pI (am_pI (am_pI (am_pI (am_pI (am_pI y 23 (y.1 22 4).toNatClampNeg n) 24 (y.1 22 4).toNatClampNeg w) 25 (y.1 22 4).toNatClampNeg old) 26 (y.1 22 4).toNatClampNeg v) 22 4 (y.1 22 4 + 1)) 22 5 0, ?_, ?_, ?_, ?_, ?_, ?_, ?_, ?_, ?_, ?_⟩
    · unfold f_Changes_remember_13 f_Changes_remember_20 f_Changes_remember_30
      simp only [q1, q2, hI1, Nat.reduceEqDiff, false_and, true_and, and_true, and_false, and_self, if_false, if_true, ok]
    · simp only [hI1, Nat.reduceEqDiff, false_and, true_and, and_true, and_false, and_self, if_false, if_true]
      rw [ti_add]; omega
    · simp [hI1]
    · simp [hI1]
    · simp [hI1]
    · simp [hI1]
    · simp [hI1]
    · intro r hr j hj
      rcases hr with e | e | e | e <;> subst e
      all_goals
        simp only [hI1, Nat.reduceEqDiff, false_and, true_and, if_false]
        rw [if_neg (by rw [ti_nat]; omega)]
    · exact (((((sx.pI _ 23 _ _ (by simp)).tr (sx.pI _ 24 _ _ (by simp))).tr (sx.pI _ 25 _ _ (by simp))).tr (sx.pI _ 26 _ _ (by simp))).tr (sx.pI _ 22 _ _ (by simp))).tr (sx.pI _ 22 _ _ (by simp))
    · intro i h4 h5
      simp [hI1, h4, h5]
  unfold f_Changes_remember chD chS
  rw [← hm]
  by_cases e : x.1 22 4 = 40
  · have q : ¬ x.1 22 4 < 40 := by rw [e]; decide
    simp only [if_pos e, if_neg q]
    have hd : f_Changes_remember_9 x n w old v = f_Changes_remember_13 (am_pI (am_cI (am_cI (am_cI (am_cI x 23 23 1 0 39) 24 24 1 0 39) 25 25 1 0 39) 26 26 1 0 39) 22 4 39) n w old v := rfl
    rw [hd]
    have e4 : (am_pI (am_cI (am_cI (am_cI (am_cI x 23 23 1 0 39) 24 24 1 0 39) 25 25 1 0 39) 26 26 1 0 39) 22 4 39).1 22 4 = 39 := by rw [hI1, if_pos ⟨rfl, rfl⟩]
    obtain ⟨x2, b1, b2, b3, b4, b5, b6, b7, b8, b9, b10⟩ := key _ (by rw [e4]; decide) (by rw [e4]; decide)
    rw [e4] at b2 b4 b5 b6 b7 b8
    refine ⟨x2, b1, by rw [b2]; rfl, b3, b4, b5, b6, b7, fun r hr j hj => ?_, ?_, fun i h4 h5 => ?_⟩
    · rw [b8 r hr j hj]
      rcases hr with e | e | e | e <;> subst e
      all_goals
        simp only [hI1, hcI1, Nat.reduceEqDiff, false_and, true_and, if_false, if_true]
        rw [if_pos (by omega), Nat.sub_zero, Nat.add_comm]
    · exact (((((sx.cI _ 23 23 _ _ _ (by simp)).tr (sx.cI _ 24 24 _ _ _ (by simp))).tr (sx.cI _ 25 25 _ _ _ (by simp))).tr (sx.cI _ 26 26 _ _ _ (by simp))).tr (sx.pI _ 22 _ _ (by simp))).tr b9
    · rw [b10 i h4 h5]
      simp only [hI1, hcI1, Nat.reduceEqDiff, false_and, true_and, if_false, h4]
  · have e' : ¬ (x.1 22 4).toInt = 40 := fun z => e ((ti_eq _ _).mpr (by rw [z40]; exact z))
    have q : x.1 22 4 < 40 := by rw [ti_lt]; omega
    simp only [if_neg e, if_pos q]
    obtain ⟨x2, b1, b2, b3, b4, b5, b6, b7, b8, b9, b10⟩ := key x h0 (by omega)
    exact ⟨x2, b1, by rw [b2]; omega, b3, b4, b5, b6, b7, fun r hr j hj => by rw [b8 r hr j hj]; rfl, b9, b10⟩
/-- both answer alike, and both changed the number alike -/
def RMe (x m : am_H) (fx fm : Option (Int32 × am_H)) : Prop := ∃ r x2 m2, fx = some (r, x2) ∧ fm = some (r, m2) ∧ RH x2 m2 ∧ VM m2 ∧ RC x2 m2 ∧
    ((x2 = x ∧ m2 = m) ∨ (KZ x2 ∧ KF x2)) ∧ sx [1, 2, 3, 4, 5, 12, 13, 14, 22, 23, 24, 25, 26] x x2 ∧ x2.1 12 11 = x.1 12 11 ∧ (∀ i, i ≠ 4 → i ≠ 5 → x2.1 22 i = x.1 22 i) ∧ sm [4, 5] [1, 2, 3, 4] m m2
theorem RMe.no {x m : am_H} (hR : RH x m) (hV : VM m) (hC : RC x m) (r : Int32) : RMe x m (some (r, x)) (some (r, m)) :=
  ⟨r, x, m, rfl, rfl, hR, hV, hC, Or.inl ⟨rfl, rfl⟩, sx.rf _ _, rfl, fun _ _ _ => rfl, sm.rf _ _ _⟩
theorem E_mend {x m : am_H} (hR : RH x m) (hV : VM m) (hC : RC x m) (hF : KF x) (n w v : Int32) : RMe x m (f_Club_mend x n w v) (f_Model_mend m n w v) := by
  have no := RMe.no hR hV hC
  have hp : f_Model_placeOf m n w = plS m n w := rfl
  have z0 : (0 : Int32).toInt = 0 := rfl
  have hPL := pl_at hR hV n w
  rcases hPL with ⟨a, b⟩ | ⟨a, b, c, d, e, f, g, l1, l2⟩
  · have hneg : plS m n w < 0 := by rw [a]; decide
    have c1 : f_Club_mend x n w v = some (-2000000000, x) := by simp only [f_Club_mend, b, f_Club_mend_9, if_false, Bool.false_eq_true]; rfl
    have c2 : f_Model_mend m n w v = some (-2000000000, m) := by simp only [f_Model_mend, hp, f_Model_mend_6, if_pos hneg]; rfl
    rw [c1, c2]; exact no _
  · have hneg : ¬ plS m n w < 0 := by rw [ti_lt]; omega
    obtain ⟨w1, w2⟩ := v_allows (v := v) hR hV e f
    have c1 : f_Club_mend x n w v = f_Club_mend_21 x n w v (f_Model_mayBecome m w v) := by
      simp only [f_Club_mend, c, f_Club_mend_9, f_Club_mend_12, w1, Option.bind_some, if_true]
    have c2 : f_Model_mend m n w v = f_Model_mend_19 m v (plS m n w) (f_Model_mayBecome m w v) := by
      simp only [f_Model_mend, hp, f_Model_mend_6, if_neg hneg, f_Model_mend_13]
    rw [c1, c2]
    by_cases hmf : f_Model_mayBecome m w v = false
    · rw [hmf]; exact no _
    have hmt : f_Model_mayBecome m w v = true := by simpa using hmf
    have hv := w2 hmt
    have hv' : vlo (plS m n w).toNatClampNeg ≤ v.toInt ∧ v.toInt ≤ vhi (plS m n w).toNatClampNeg := by rw [l1, l2]; exact hv
    rw [hmt]
    simp only [f_Club_mend_21, f_Model_mend_19, if_true, f_Club_mend_27, d, Option.bind_some, f_Model_mend_22, f_Club_mend_36]
    obtain ⟨r1, r2, r3, r4, r5, r6⟩ := hC
    by_cases ev : m.1 1 (plS m n w).toNatClampNeg = v
    · refine ⟨m.1 1 (plS m n w).toNatClampNeg, x, m, ?_, ?_, hR, hV, ⟨r1, r2, r3, r4, r5, r6⟩, Or.inl ⟨rfl, rfl⟩, sx.rf _ _, rfl, fun _ _ _ => rfl, sm.rf _ _ _⟩
      · rw [if_pos ev]; rfl
      · unfold f_Model_becomes
        rw [if_pos (ok_of (by omega)), if_pos ev]
        rfl
    · rw [if_neg ev]
      obtain ⟨m2, a1, a2, a3, a4, a5, a6, a7, a8, a9⟩ := v_becomes (m := m) (p := plS m n w) (v := v) r3 (by omega) ⟨a, b⟩ ev
      obtain ⟨x1, b1, b2, b3, b4, b5, b6, b7, b8, b9, b10⟩ := v_remember (x := x) (by rw [r1]; exact r3) (by rw [r1]; omega) n w (m.1 1 (plS m n w).toNatClampNeg) v m r1
      have e12 := b9 12 (by simp)
      have e13 := b9 13 (by simp)
      have e14 := b9 14 (by simp)
      have hF1 : KF x1 := by unfold KF; rw [e12.1, e13.2, e14.2]; exact hF
      obtain ⟨x2, g1, g2, g3, g4, g5, g6, g7⟩ := v_alter (hR.fx b9 (by decide)) hV hF1 (n := n) (w := w) (v := v) a hv'
      have hm1 : m2.1 1 = (am_pI m 1 (plS m n w).toNatClampNeg v).1 1 := a8
      have hm6 : m2.1 0 6 = (am_pI m 1 (plS m n w).toNatClampNeg v).1 0 6 := by rw [a9.1 6 (by simp), hI1, if_neg (by simp)]
      have hR2 : RH x2 m2 := by
        refine ⟨fun q hq => ?_, ?_⟩
        · rw [hm1]; exact g2.1 q hq
        · rw [hm6]; exact g2.2
      have hV2 : VM m2 := by
        refine ⟨fun q hq => ?_, ?_⟩
        · rw [hm1]; exact g3.1 q hq
        · rw [hm6]; exact g3.2
      have h22 := (g6 22 (by simp)).1
      have h23 := (g6 23 (by simp)).1
      have h24 := (g6 24 (by simp)).1
      have h25 := (g6 25 (by simp)).1
      have h26 := (g6 26 (by simp)).1
      have z40 : (40 : Int32).toInt = 40 := rfl
      have hch : (chD m : Int) + chS m = (m.1 0 5).toInt ∧ chD m ≤ 39 := by
        unfold chD chS
        by_cases e : m.1 0 5 = 40
        · rw [if_pos e, if_pos e, e]; simp
        · have e' : ¬ (m.1 0 5).toInt = 40 := fun z => e ((ti_eq _ _).mpr (by rw [z40]; exact z))
          rw [if_neg e, if_neg e]; omega
      refine ⟨m.1 1 (plS m n w).toNatClampNeg, x2, m2, ?_, ?_, hR2, hV2, ⟨?_, ?_, ?_, ?_, ?_, ?_⟩, Or.inr ⟨g4, g5⟩, (b9.mono (by simp)).tr (g6.mono (by simp)), by rw [g7, e12.1], fun i h4 h5 => by rw [h22, b10 i h4 h5], a9⟩
      · simp only [f_Club_mend_44, b1, Option.bind_some, f_Club_mend_56, g1]; rfl
      · rw [a1]; rfl
      · rw [h22, ti_eq, b2, a2]
      · rw [a3, h22, b3, z0]; omega
      · omega
      · rw [h22, b3]; decide
      · rw [a3, a2]; omega
      · intro i hi
        rw [a3, a2] at hi
        rw [h23, h24, h25, h26, plS_c hV hV2 (a9.1 6 (by simp))]
        by_cases ei : i = chD m
        · rw [ei, b4, b5, b6, b7, a4, a5, a6]
          refine ⟨rfl, a, b, rfl, rfl, ?_, hv'⟩
          exact hV.1 _ (by rw [ti_nat]; omega)
        · have hi2 : i < chD m := by omega
          rw [b8 23 (by simp) i hi2, b8 24 (by simp) i hi2, b8 25 (by simp) i hi2, b8 26 (by simp) i hi2, a7 2 (by simp) i hi2, a7 3 (by simp) i hi2, a7 4 (by simp) i hi2]
          exact r6 (i + chS m) (by omega)
theorem isPlace_of {i : Int32} (h : 0 ≤ i.toInt ∧ i.toInt < 40) : f_Changes_isPlace i = true := by
  have z0 : (0 : Int32).toInt = 0 := rfl
  have z40 : (40 : Int32).toInt = 40 := rfl
  have q1 : ¬ i < 0 := by rw [ti_lt]; omega
  have q2 : ¬ 40 ≤ i := by rw [ti_le]; omega
  simp only [f_Changes_isPlace_14, f_Changes_isPlace_10, f_Changes_isPlace_4, f_Changes_isPlace, if_neg q1, if_neg q2]
theorem E_undo {x m : am_H} (hR : RH x m) (hV : VM m) (hC : RC x m) (hF : KF x) : RMe x m (f_Club_undo x) (f_Model_undo m) := by
  have no := RMe.no hR hV hC
  obtain ⟨r1, r2, r3, r4, r5, r6⟩ := hC
  have z0 : (0 : Int32).toInt = 0 := rfl
  have z1 : (1 : Int32).toInt = 1 := rfl
  by_cases e : m.1 0 5 = 0
  · have q : ¬ 0 < x.1 22 4 := by rw [r1, e]; decide
    have c1 : f_Club_undo x = some (-5, x) := by
      have q' : ¬ (0 : Int32) ≤ -1 := by decide
      simp only [f_Club_undo, f_Changes_stepBack, if_neg q, f_Changes_stepBack_7, f_Club_undo_7, if_neg q', f_Club_undo_12]
    have c2 : f_Model_undo m = some (-5, m) := by simp only [f_Model_undo, if_pos e, f_Model_undo_7]
    rw [c1, c2]; exact no _
  · have e' : ¬ (m.1 0 5).toInt = 0 := fun z => e ((ti_eq _ _).mpr (by rw [z0]; exact z))
    have q : 0 < x.1 22 4 := by rw [ti_lt, r1]; omega
    have hd : (m.1 0 5 - 1).toInt = (m.1 0 5).toInt - 1 := by rw [ti_sub]; omega
    have hu : (x.1 22 5 + 1).toInt = (x.1 22 5).toInt + 1 := by rw [ti_add]; omega
    generalize hdd : m.1 0 5 - 1 = d at *
    have q0 : 0 ≤ d := by rw [ti_le]; omega
    obtain ⟨s1, s2, s3, s4, s5, s6, s7⟩ := r6 d.toNatClampNeg (by rw [ti_nat]; omega)
    have ok := ok_of (i := d) (n := 40) ⟨by omega, by omega⟩
    have okp := ok_of (i := m.1 2 d.toNatClampNeg) (n := 54) ⟨s2, s3⟩
    have hip := isPlace_of (i := d) ⟨by omega, by omega⟩
    have hb : f_Changes_stepBack x = (d, am_pI (am_pI x 22 4 d) 22 5 (x.1 22 5 + 1)) := by
      unfold f_Changes_stepBack; rw [if_pos q]
      simp only [f_Changes_stepBack_9, r1, hdd, hI1, Nat.reduceEqDiff, false_and, true_and, and_true, and_false, and_self, if_false, if_true]
    have hs : sx [22] x (am_pI (am_pI x 22 4 d) 22 5 (x.1 22 5 + 1)) := (sx.pI _ _ _ _ (by simp)).tr (sx.pI _ _ _ _ (by simp))
    have t4 : (am_pI (am_pI x 22 4 d) 22 5 (x.1 22 5 + 1)).1 22 4 = d := by simp [hI1]
    have t5 : (am_pI (am_pI x 22 4 d) 22 5 (x.1 22 5 + 1)).1 22 5 = x.1 22 5 + 1 := by simp [hI1]
    have tt : ∀ i, i ≠ 4 → i ≠ 5 → (am_pI (am_pI x 22 4 d) 22 5 (x.1 22 5 + 1)).1 22 i = x.1 22 i := fun i h4 h5 => by simp [hI1, h4, h5]
    generalize am_pI (am_pI x 22 4 d) 22 5 (x.1 22 5 + 1) = x1 at *
    have u23 := (hs 23 (by simp)).1
    have u24 := (hs 24 (by simp)).1
    have u25 := (hs 25 (by simp)).1
    have u26 := (hs 26 (by simp)).1
    have hF1 : KF x1 := by unfold KF; rw [(hs 12 (by simp)).1, (hs 13 (by simp)).2, (hs 14 (by simp)).2]; exact hF
    obtain ⟨x2, g1, g2, g3, g4, g5, g6, g7⟩ := v_alter (hR.fx hs (by decide)) hV hF1 (n := x.1 23 d.toNatClampNeg) (w := x.1 24 d.toNatClampNeg) (v := m.1 3 d.toNatClampNeg) (by rw [s1]; exact s2) (by rw [s1]; exact s6)
    rw [s1] at g2 g3
    have c1 : f_Club_undo x = some (d, x2) := by
      simp only [f_Club_undo, hb, f_Club_undo_7, if_pos q0, f_Club_undo_15, f_Club_undo_24, f_Club_undo_32, f_Club_undo_40, f_Changes_numberOf, f_Changes_numberOf_4, f_Changes_numberOf_7, f_Changes_whatOf, f_Changes_whatOf_4, f_Changes_whatOf_7, f_Changes_wasOf, f_Changes_wasOf_4, f_Changes_wasOf_7, hip, ok, if_true, Option.bind_some, u23, u24, u25, s4, g1, f_Club_undo_43, f_Changes_toUndo, f_Club_undo_50]
      rw [(g6 22 (by simp)).1, t4]
    have c2 : f_Model_undo m = some (d, am_pI (am_pI m 0 5 d) 1 (m.1 2 d.toNatClampNeg).toNatClampNeg (m.1 3 d.toNatClampNeg)) := by
      simp only [f_Model_undo, if_neg e, f_Model_undo_10, hdd, hI1, Nat.reduceEqDiff, false_and, true_and, and_true, and_false, and_self, if_false, if_true, ok, okp]
    have hR2 : RH x2 (am_pI (am_pI m 0 5 d) 1 (m.1 2 d.toNatClampNeg).toNatClampNeg (m.1 3 d.toNatClampNeg)) := g2
    have hV2 : VM (am_pI (am_pI m 0 5 d) 1 (m.1 2 d.toNatClampNeg).toNatClampNeg (m.1 3 d.toNatClampNeg)) := g3
    have hm : sm [4, 5] [1, 2, 3, 4] m (am_pI (am_pI m 0 5 d) 1 (m.1 2 d.toNatClampNeg).toNatClampNeg (m.1 3 d.toNatClampNeg)) := (sm.p0 _ _ _ (by simp)).tr (sm.pI _ _ _ _ (by decide) (by simp))
    rw [c1, c2]
    refine ⟨d, x2, _, rfl, rfl, hR2, hV2, ⟨?_, ?_, ?_, ?_, ?_, ?_⟩, Or.inr ⟨g4, g5⟩, (hs.mono (by simp)).tr (g6.mono (by simp)), by rw [g7, (hs 12 (by simp)).1], fun i h4 h5 => by rw [(g6 22 (by simp)).1, tt i h4 h5], hm⟩
    · rw [(g6 22 (by simp)).1, t4]; simp [hI1]
    · rw [(g6 22 (by simp)).1, t5]; simp only [hI1, Nat.reduceEqDiff, false_and, true_and, and_true, and_false, and_self, if_false, if_true]; omega
    · simp only [hI1, Nat.reduceEqDiff, false_and, true_and, and_true, and_false, and_self, if_false, if_true]; omega
    · rw [(g6 22 (by simp)).1, t5]; omega
    · simp only [hI1, Nat.reduceEqDiff, false_and, true_and, and_true, and_false, and_self, if_false, if_true]; omega
    · intro i hi
      rw [plS_c hV hV2 (hm.1 6 (by simp)), (g6 23 (by simp)).1, (g6 24 (by simp)).1, (g6 25 (by simp)).1, (g6 26 (by simp)).1, u23, u24, u25, u26]
      exact r6 i hi
theorem E_redo {x m : am_H} (hR : RH x m) (hV : VM m) (hC : RC x m) (hF : KF x) : RMe x m (f_Club_redo x) (f_Model_redo m) := by
  have no := RMe.no hR hV hC
  obtain ⟨r1, r2, r3, r4, r5, r6⟩ := hC
  have z0 : (0 : Int32).toInt = 0 := rfl
  have z1 : (1 : Int32).toInt = 1 := rfl
  by_cases e : m.1 0 5 = m.1 0 4
  · have q : ¬ 0 < x.1 22 5 := by rw [ti_lt]; rw [e] at r2; omega
    have c1 : f_Club_redo x = some (-5, x) := by
      have q' : ¬ (0 : Int32) ≤ -1 := by decide
      simp only [f_Club_redo, f_Changes_stepOn, if_neg q, f_Changes_stepOn_7, f_Club_redo_7, if_neg q', f_Club_redo_12]
    have c2 : f_Model_redo m = some (-5, m) := by simp only [f_Model_redo, if_pos e, f_Model_redo_11]
    rw [c1, c2]; exact no _
  · have e' : ¬ (m.1 0 5).toInt = (m.1 0 4).toInt := fun z => e ((ti_eq _ _).mpr z)
    have q : 0 < x.1 22 5 := by rw [ti_lt]; omega
    have hu : (x.1 22 5 - 1).toInt = (x.1 22 5).toInt - 1 := by rw [ti_sub]; omega
    have hd : (m.1 0 5 + 1).toInt = (m.1 0 5).toInt + 1 := by rw [ti_add]; omega
    have hk : m.1 0 4 - (m.1 0 5 + 1) = x.1 22 5 - 1 := by rw [ti_eq, ti_sub, hd, hu]; omega
    have hdd : m.1 0 5 + 1 - 1 = m.1 0 5 := by rw [ti_eq, ti_sub, hd]; omega
    have q0 : 0 ≤ m.1 0 5 := by rw [ti_le]; omega
    obtain ⟨s1, s2, s3, s4, s5, s6, s7⟩ := r6 (m.1 0 5).toNatClampNeg (by rw [ti_nat]; omega)
    have ok := ok_of (i := m.1 0 5) (n := 40) ⟨by omega, by omega⟩
    have okp := ok_of (i := m.1 2 (m.1 0 5).toNatClampNeg) (n := 54) ⟨s2, s3⟩
    have hip := isPlace_of (i := m.1 0 5) ⟨by omega, by omega⟩
    have hb : f_Changes_stepOn x = (m.1 0 5, am_pI (am_pI x 22 5 (x.1 22 5 - 1)) 22 4 (m.1 0 5 + 1)) := by
      simp only [f_Changes_stepOn, if_pos q, f_Changes_stepOn_9, r1, hdd, hI1, Nat.reduceEqDiff, false_and, true_and, and_true, and_false, and_self, if_false, if_true]
    have hs : sx [22] x (am_pI (am_pI x 22 5 (x.1 22 5 - 1)) 22 4 (m.1 0 5 + 1)) := (sx.pI _ _ _ _ (by simp)).tr (sx.pI _ _ _ _ (by simp))
    have t4 : (am_pI (am_pI x 22 5 (x.1 22 5 - 1)) 22 4 (m.1 0 5 + 1)).1 22 4 = m.1 0 5 + 1 := by simp [hI1]
    have t5 : (am_pI (am_pI x 22 5 (x.1 22 5 - 1)) 22 4 (m.1 0 5 + 1)).1 22 5 = x.1 22 5 - 1 := by simp [hI1]
    have tt : ∀ i, i ≠ 4 → i ≠ 5 → (am_pI (am_pI x 22 5 (x.1 22 5 - 1)) 22 4 (m.1 0 5 + 1)).1 22 i = x.1 22 i := fun i h4 h5 => by simp [hI1, h4, h5]
    generalize am_pI (am_pI x 22 5 (x.1 22 5 - 1)) 22 4 (m.1 0 5 + 1) = x1 at *
    have u23 := (hs 23 (by simp)).1
    have u24 := (hs 24 (by simp)).1
    have u25 := (hs 25 (by simp)).1
    have u26 := (hs 26 (by simp)).1
    have hF1 : KF x1 := by unfold KF; rw [(hs 12 (by simp)).1, (hs 13 (by simp)).2, (hs 14 (by simp)).2]; exact hF
    obtain ⟨x2, g1, g2, g3, g4, g5, g6, g7⟩ := v_alter (hR.fx hs (by decide)) hV hF1 (n := x.1 23 (m.1 0 5).toNatClampNeg) (w := x.1 24 (m.1 0 5).toNatClampNeg) (v := m.1 4 (m.1 0 5).toNatClampNeg) (by rw [s1]; exact s2) (by rw [s1]; exact s7)
    rw [s1] at g2 g3
    have c1 : f_Club_redo x = some (x.1 22 5 - 1, x2) := by
      simp only [f_Club_redo, hb, f_Club_redo_7, if_pos q0, f_Club_redo_15, f_Club_redo_24, f_Club_redo_32, f_Club_redo_40, f_Changes_numberOf, f_Changes_numberOf_4, f_Changes_numberOf_7, f_Changes_whatOf, f_Changes_whatOf_4, f_Changes_whatOf_7, f_Changes_becameOf, f_Changes_becameOf_4, f_Changes_becameOf_7, hip, ok, if_true, Option.bind_some, u23, u24, u26, s5, g1, f_Club_redo_43, f_Changes_toRedo, f_Club_redo_50]
      rw [(g6 22 (by simp)).1, t5]
    have c2 : f_Model_redo m = some (x.1 22 5 - 1, am_pI (am_pI m 1 (m.1 2 (m.1 0 5).toNatClampNeg).toNatClampNeg (m.1 4 (m.1 0 5).toNatClampNeg)) 0 5 (m.1 0 5 + 1)) := by
      simp only [f_Model_redo, if_neg e, f_Model_redo_14, hI1, Nat.reduceEqDiff, false_and, true_and, and_true, and_false, and_self, if_false, if_true, ok, okp, hk]
    have hR2 : RH x2 (am_pI (am_pI m 1 (m.1 2 (m.1 0 5).toNatClampNeg).toNatClampNeg (m.1 4 (m.1 0 5).toNatClampNeg)) 0 5 (m.1 0 5 + 1)) := g2
    have hV2 : VM (am_pI (am_pI m 1 (m.1 2 (m.1 0 5).toNatClampNeg).toNatClampNeg (m.1 4 (m.1 0 5).toNatClampNeg)) 0 5 (m.1 0 5 + 1)) := g3
    have hm : sm [4, 5] [1, 2, 3, 4] m (am_pI (am_pI m 1 (m.1 2 (m.1 0 5).toNatClampNeg).toNatClampNeg (m.1 4 (m.1 0 5).toNatClampNeg)) 0 5 (m.1 0 5 + 1)) := (sm.pI _ _ _ _ (by decide) (by simp)).tr (sm.p0 _ _ _ (by simp))
    rw [c1, c2]
    refine ⟨_, x2, _, rfl, rfl, hR2, hV2, ⟨?_, ?_, ?_, ?_, ?_, ?_⟩, Or.inr ⟨g4, g5⟩, (hs.mono (by simp)).tr (g6.mono (by simp)), by rw [g7, (hs 12 (by simp)).1], fun i h4 h5 => by rw [(g6 22 (by simp)).1, tt i h4 h5], hm⟩
    · rw [(g6 22 (by simp)).1, t4]; simp [hI1]
    · rw [(g6 22 (by simp)).1, t5]; simp only [hI1, Nat.reduceEqDiff, false_and, true_and, and_true, and_false, and_self, if_false, if_true]; omega
    · simp only [hI1, Nat.reduceEqDiff, false_and, true_and, and_true, and_false, and_self, if_false, if_true]; omega
    · rw [(g6 22 (by simp)).1, t5]; omega
    · simp only [hI1, Nat.reduceEqDiff, false_and, true_and, and_true, and_false, and_self, if_false, if_true]; omega
    · intro i hi
      rw [plS_c hV hV2 (hm.1 6 (by simp)), (g6 23 (by simp)).1, (g6 24 (by simp)).1, (g6 25 (by simp)).1, (g6 26 (by simp)).1, u23, u24, u25, u26]
      exact r6 i hi
