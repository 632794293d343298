/-! the best means: the class's table held to the rows -/
def cellJ (j : Nat) : Int32 := Int32.ofNat (j % 31)
def KB (x m : am_H) : Prop := (x.1 12 6 = 0 → ∀ j, j < 155 → x.2 13 j = 0) ∧ (∀ j, j < 155 → x.2 13 j = 0 ∨ x.2 13 j = rJ m (fB m) j) ∧
  (∀ j, j < 155 → ¬ x.2 13 j = 0 → ¬ (grB m (cellJ j) = true ∨ j / 31 = 0 ∨ m.1 0 6 = 0) → x.1 15 j = (bestF m (rowG m (fB m) (j / 31 - 1)) (j / 31) (cellJ j)).1)
theorem rJ_pos {m : am_H} (hV : VM m) {f : (Int32 → Int64) → Nat → Int32 → Int64} (hf : okF m f) (j : Nat) (hj : j < 155) : ¬ rJ m f j = 0 := by
  have e : (Int32.ofNat (j % 31)).toInt = (j % 31 : Nat) := Int32.toInt_ofNat_of_lt (by omega)
  have := rowG_b hV hf (j / 31) (by omega) (Int32.ofNat (j % 31)) (cellB_iff.mpr (by omega))
  have z0 : (0 : Int64).toInt = 0 := rfl
  unfold rJ
  intro q
  rw [q] at this
  omega
theorem nat_of {a : Nat} (h : a < 2 ^ 31) : (Int32.ofNat a).toNatClampNeg = a := Int32.toNatClampNeg_ofNat_of_lt h
theorem KB.fx {x x2 m : am_H} (h : KB x m) (h1 : x2.1 12 6 = x.1 12 6) (h2 : ∀ j, j < 155 → x2.2 13 j = x.2 13 j) (h3 : ∀ j, j < 155 → x2.1 15 j = x.1 15 j) : KB x2 m := by
  refine ⟨fun q j hj => ?_, fun j hj => ?_, fun j hj => ?_⟩
  · rw [h2 j hj]; exact h.1 (h1 ▸ q) j hj
  · rw [h2 j hj]; exact h.2.1 j hj
  · rw [h2 j hj, h3 j hj]; exact h.2.2 j hj
theorem v_Reck_mean0m {x m : am_H} (hR : RH x m) (hV : VM m) (hK : KB x m) {cell n : Int32} (hc : cellB cell = true) (hn : 0 ≤ n.toInt ∧ n.toInt ≤ 4) :
    ∃ x2, f_Reck_mean x cell n 0 = some (rowG m (fB m) n.toNatClampNeg cell, x2) ∧ KB x2 m ∧ sx [12, 13, 15] x x2 ∧ (∀ i, i ≠ 6 → x2.1 12 i = x.1 12 i) ∧ x2.2 12 = x.2 12 ∧ x2.2 13 (31 * n.toNatClampNeg + cell.toNatClampNeg) = rowG m (fB m) n.toNatClampNeg cell ∧ ∀ j, j < 155 → ¬ x.2 13 j = 0 → ¬ x2.2 13 j = 0 := by
  have hf := okF_B hV
  have z0 : (0 : Int32).toInt = 0 := rfl
  have z4 : (4 : Int32).toInt = 4 := rfl
  have z01 : ¬ (0 : Int32) = 1 := by decide
  have c1 := cellB_iff.mp hc
  have hnn := ti_mk hn.1
  have hcc := ti_mk c1.1
  obtain ⟨a1, a2, a3, a4⟩ := at_row0 hn hc
  have b1 : ¬ n < 0 := by rw [ti_lt]; omega
  have b2 : n ≤ 4 := by rw [ti_le]; omega
  have hgo : f_Reck_mean x cell n 0 = f_Reck_mean_65_l am_fu (am_pI x 12 6 1) n 0 13 155 (n * 31 + cell) 0 := by
    simp only [f_Reck_mean, f_Reck_mean_4, f_Reck_mean_7, f_Reck_mean_11, f_Reck_mean_18, f_Reck_mean_30, f_Reck_mean_34, f_Reck_mean_49, f_Reck_mean_54, v_Hole_isCell, hc, if_true, if_neg b1, if_pos b2, if_neg z01]
  rw [hgo]
  let I : am_H → Prop := fun y => RH y m ∧ KB y m ∧ sx [12, 13, 15] x y ∧ (∀ i, i ≠ 6 → y.1 12 i = x.1 12 i) ∧ y.2 12 = x.2 12 ∧ y.1 12 6 = 1 ∧ ∀ j, j < 155 → ¬ x.2 13 j = 0 → ¬ y.2 13 j = 0
  have hI0 : I (am_pI x 12 6 1) := by
    have s : sx [12] x (am_pI x 12 6 1) := sx.pI _ _ _ _ (by simp)
    refine ⟨hR.fx s (by decide), ⟨fun q => ?_, hK.2.1, hK.2.2⟩, s.mono (by simp), fun i hi => ?_, rfl, ?_, fun _ _ h => h⟩
    · simp [hI1] at q
    · simp [hI1, hi]
    · simp [hI1]
  obtain ⟨x2, r1, r2, r3⟩ := l_Reck_mean (m := m) (f := fB m) (p := 13) (w := 0) (n := n) (asked := n * 31 + cell) (N := n.toNatClampNeg) (A := 31 * n.toNatClampNeg + cell.toNatClampNeg) I (rJ_pos hV hf) (by omega) (by omega) (by omega) (by omega)
    (fun y hy => hy.2.1.2.1)
    (fun y a ha hy hrow => by
      obtain ⟨y1, y2, y3, y4, y5, y6, y7⟩ := hy
      have e31 : a % 31 < 31 := Nat.mod_lt _ (by decide)
      have n1 : (Int32.ofNat (a / 31)).toNatClampNeg = a / 31 := nat_of (by omega)
      have n2 : (Int32.ofNat (a % 31)).toNatClampNeg = a % 31 := nat_of (by omega)
      have n3 : (Int32.ofNat (a / 31)).toInt = (a / 31 : Nat) := Int32.toInt_ofNat_of_lt (by omega)
      have n4 : (Int32.ofNat (a % 31)).toInt = (a % 31 : Nat) := Int32.toInt_ofNat_of_lt (by omega)
      have hcl : cellB (Int32.ofNat (a % 31)) = true := cellB_iff.mpr (by omega)
      have ew := v_Reck_workOut0 y1 hV (cell := Int32.ofNat (a % 31)) (n := Int32.ofNat (a / 31)) hcl (by omega) (fun h1 c hc2 => by
        rw [n1] at h1 ⊢
        have c3 := cellB_nat hc2
        rw [hrow h1 _ (by omega) (by omega), rJ_at m (fB m) hc2])
      rw [n1, n2] at ew
      have ea : 31 * (a / 31) + a % 31 = a := by omega
      rw [ea] at ew
      refine ⟨_, ew, ?_, ?_⟩
      · split <;> rfl
      · generalize hz : (if grB m (Int32.ofNat (a % 31)) = true ∨ a / 31 = 0 ∨ m.1 0 6 = 0 then y else am_pI y 15 a (bestF m (rowG m (fB m) (a / 31 - 1)) (a / 31) (Int32.ofNat (a % 31))).1) = z
        have hzs : sx [15] y z := by
          rw [← hz]; split
          · exact sx.rf _ _
          · exact sx.pI _ _ _ _ (by simp)
        have hz2 : z.2 = y.2 := by rw [← hz]; split <;> rfl
        have hz15 : ∀ j, z.1 15 j = if j = a ∧ ¬ (grB m (Int32.ofNat (a % 31)) = true ∨ a / 31 = 0 ∨ m.1 0 6 = 0) then (bestF m (rowG m (fB m) (a / 31 - 1)) (a / 31) (Int32.ofNat (a % 31))).1 else y.1 15 j := by
          intro j
          rw [← hz]
          by_cases q : grB m (Int32.ofNat (a % 31)) = true ∨ a / 31 = 0 ∨ m.1 0 6 = 0
          · rw [if_pos q, if_neg (fun w => w.2 q)]
          · rw [if_neg q, hI1]
            by_cases w : j = a
            · rw [if_pos ⟨rfl, w⟩, if_pos ⟨w, q⟩]
            · rw [if_neg (fun u => w u.2), if_neg (fun u => w u.1)]
        have s2 : sx [13, 15] y (am_pL z 13 a (rJ m (fB m) a)) := (hzs.mono (by simp)).tr (sx.pL _ _ _ _ (by simp))
        have h12 : (am_pL z 13 a (rJ m (fB m) a)).1 12 = y.1 12 := (s2 12 (by simp)).1
        refine ⟨y1.fx s2 (by decide), ⟨fun q => ?_, fun j hj => ?_, fun j hj q1 q2 => ?_⟩, y3.tr (s2.mono (by simp)), fun i hi => ?_, ?_, ?_, fun j hj hz => ?_⟩
        · rw [h12, y6] at q; exact absurd q (by decide)
        · rw [hL2, hz2]
          by_cases q : j = a
          · rw [if_pos ⟨rfl, q⟩, q]; exact Or.inr rfl
          · rw [if_neg (fun u => q u.2)]; exact y2.2.1 j hj
        · rw [hL1, hz15]
          rw [hL2, hz2] at q1
          by_cases q : j = a
          · subst q
            rw [if_pos ⟨rfl, q2⟩]; rfl
          · rw [if_neg (fun u => q u.1)]
            rw [if_neg (fun u => q u.2)] at q1
            exact y2.2.2 j hj q1 q2
        · rw [h12]; exact y4 i hi
        · rw [(s2 12 (by simp)).2]; exact y5
        · rw [h12]; exact y6
        · rw [hL2, hz2]
          by_cases q : j = a
          · rw [if_pos ⟨rfl, q⟩]; exact rJ_pos hV hf a ha
          · rw [if_neg (fun u => q u.2)]; exact y7 j hj hz)
    (31 * n.toNatClampNeg + cell.toNatClampNeg + 1) am_fu 0 (am_pI x 12 6 1) (by unfold am_fu; omega) (by omega) (by decide) hI0 (fun j h1 => by omega)
  have r4 := r3 _ (Or.inr rfl)
  rw [rJ_at m (fB m) hc] at r1 r4
  obtain ⟨y1, y2, y3, y4, y5, y6, y7⟩ := r2
  exact ⟨x2, r1, y2, y3, y4, y5, r4, y7⟩
theorem v_Reck_mean0 {x m : am_H} (hR : RH x m) (hV : VM m) (hK : KB x m) {cell n : Int32} (hc : cellB cell = true) (hn : 0 ≤ n.toInt ∧ n.toInt ≤ 4) :
    ∃ x2, f_Reck_mean x cell n 0 = some (rowG m (fB m) n.toNatClampNeg cell, x2) ∧ KB x2 m ∧ sx [12, 13, 15] x x2 ∧ (∀ i, i ≠ 6 → x2.1 12 i = x.1 12 i) ∧ x2.2 12 = x.2 12 ∧ x2.2 13 (31 * n.toNatClampNeg + cell.toNatClampNeg) = rowG m (fB m) n.toNatClampNeg cell := by
  obtain ⟨x2, a, b, c, d, e, f, -⟩ := v_Reck_mean0m hR hV hK hc hn
  exact ⟨x2, a, b, c, d, e, f⟩
