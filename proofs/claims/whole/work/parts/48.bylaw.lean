/-! STROKES BY THE LAW -/
theorem rowG_0 {m : am_H} (h0 : m.1 0 6 = 0) (f g : (Int32 → Int64) → Nat → Int32 → Int64) : rowG m f = rowG m g := by
  funext n c
  cases n with
  | zero => rfl
  | succ n => simp only [rowG, if_pos h0]
theorem rJ_0 {m : am_H} (h0 : m.1 0 6 = 0) (f g : (Int32 → Int64) → Nat → Int32 → Int64) : rJ m f = rJ m g := by
  funext j; unfold rJ; rw [rowG_0 h0 f g]
theorem tkX_C {m m2 : am_H} (e : m2.1 1 = m.1 1) (e6 : m2.1 0 6 = m.1 0 6) (L : Option ((Nat → Int32) → Int32)) : tkX L m2 = tkX L m := by
  funext und cell told
  unfold tkX blS beS
  rw [rk_C e, e, e6]
/-- what the class keeps of the law's clubs and means -/
def KT (x m : am_H) (tk : Int32 → Int32) : Prop := (x.1 12 7 = 0 → ∀ j, j < 155 → x.2 14 j = 0) ∧ (∀ j, j < 155 → x.2 14 j = 0 ∨ x.2 14 j = rJ m (fL m tk) j) ∧
  (¬ x.1 12 8 = 0 → ¬ m.1 0 6 = 0 → ∀ c, cellB c = true → x.1 16 c.toNatClampNeg = tk c)
theorem l_find {m : am_H} {L : Option ((Nat → Int32) → Int32)} (hV : VM m) (und : Int32) : ∀ (k fu : Nat) (x : am_H) (i : Int32) (j : Nat), RTL x m L → RH x m → x.1 12 11 = und → k < fu → i.toInt = j → j + k = 31 → (¬ m.1 0 6 = 0 → ∀ a, a < j → x.1 16 a = tkX L m und (Int32.ofNat a) 0) →
    ∃ x2, f_Reck_findLawfulClubs_10_l fu x i = some x2 ∧ sx [10, 11, 12, 16] x x2 ∧ (∀ i, i ≠ 8 → x2.1 12 i = x.1 12 i) ∧ x2.2 12 = x.2 12 ∧ x2.1 12 8 = 1 ∧ (¬ m.1 0 6 = 0 → ∀ a, a < 31 → x2.1 16 a = tkX L m und (Int32.ofNat a) 0) := by
  have z31 : (31 : Int32).toInt = 31 := rfl
  intro k
  induction k with
  | zero =>
    intro fu x i j hL hR hu hf hi hk hd
    obtain ⟨g, rfl⟩ : ∃ g, fu = g + 1 := ⟨fu - 1, by omega⟩
    refine ⟨am_pI x 12 8 1, ?_, sx.pI _ _ _ _ (by simp), fun q hq => by simp [hI1, hq], rfl, by simp [hI1], fun h0 a ha => by rw [hI1, if_neg (by simp)]; exact hd h0 a (by omega)⟩
    show f_Reck_findLawfulClubs_10 _ x i = _
    unfold f_Reck_findLawfulClubs_10
    rw [if_pos (by rw [ti_le]; omega)]; rfl
  | succ k ih =>
    intro fu x i j hL hR hu hf hi hk hd
    obtain ⟨g, rfl⟩ : ∃ g, fu = g + 1 := ⟨fu - 1, by omega⟩
    have hc : cellB i = true := cellB_iff.mpr (by omega)
    obtain ⟨r, x1, a1, a2, a3⟩ := v_clubTold hL hR hV hc 0
    have s1 : sx [10, 11, 16] x (am_pI x1 16 j r) := (a2.mono (by simp)).tr (sx.pI _ _ _ _ (by simp))
    have e12 := s1 12 (by decide)
    obtain ⟨x2, i1, i2, i3, i4, i5, i6⟩ := ih g (am_pI x1 16 j r) (i + 1) (j + 1) (hL.fx s1 (by decide)) (hR.fx s1 (by decide)) (by rw [e12.1]; exact hu) (by omega) (i_next hi (by omega)) (by omega) (fun h0 a ha => by
      rw [hI1]
      by_cases q : a = j
      · rw [if_pos ⟨rfl, q⟩, a3 h0, hu, q]
        congr 1
        rw [ti_eq, Int32.toInt_ofNat_of_lt (by omega), hi]
      · rw [if_neg (fun z => q z.2), (a2 16 (by decide)).1]
        exact hd h0 a (by omega))
    refine ⟨x2, ?_, (s1.mono (by simp)).tr i2, fun q hq => by rw [i3 q hq, e12.1], by rw [i4, e12.2], i5, i6⟩
    show f_Reck_findLawfulClubs_10 _ x i = _
    unfold f_Reck_findLawfulClubs_10
    rw [if_neg (by rw [ti_le]; omega)]
    unfold f_Reck_findLawfulClubs_19
    rw [a1, Option.bind_some]
    unfold f_Reck_findLawfulClubs_30
    rw [if_pos (ok_of (by omega)), i_nat hi]
    exact i1
theorem v_findLawful {x m : am_H} {L : Option ((Nat → Int32) → Int32)} (hL : RTL x m L) (hR : RH x m) (hV : VM m) {tk : Int32 → Int32} (htk : ∀ c, tk c = tkX L m (x.1 12 11) c 0) (hK : KT x m tk) :
    ∃ x2, f_Reck_findLawfulClubs x = some x2 ∧ sx [10, 11, 12, 16] x x2 ∧ (∀ i, i ≠ 8 → x2.1 12 i = x.1 12 i) ∧ x2.2 12 = x.2 12 ∧ ¬ x2.1 12 8 = 0 ∧ KT x2 m tk := by
  unfold f_Reck_findLawfulClubs
  by_cases e : x.1 12 8 = 0
  · rw [if_pos e]
    unfold f_Reck_findLawfulClubs_8
    obtain ⟨x2, i1, i2, i3, i4, i5, i6⟩ := l_find hV (x.1 12 11) 31 am_fu x 0 0 hL hR rfl (by unfold am_fu; omega) (by decide) (by omega) (fun _ a ha => by omega)
    have e14 := (i2 14 (by decide)).2
    refine ⟨x2, i1, i2, i3, i4, by rw [i5]; decide, ?_, ?_, fun _ h0 c hc => ?_⟩
    · rw [i3 7 (by decide), e14]; exact hK.1
    · rw [e14]; exact hK.2.1
    · have c1 := cellB_iff.mp hc
      rw [i6 h0 _ (cellB_nat hc), htk]
      congr 1
      rw [ti_eq, Int32.toInt_ofNat_of_lt (by have := cellB_nat hc; omega), ti_mk c1.1]
  · rw [if_neg e]
    exact ⟨x, rfl, sx.rf _ _, fun _ _ => rfl, rfl, e, hK⟩
theorem v_mean1a {x m : am_H} (hR : RH x m) (hV : VM m) {tk : Int32 → Int32} (htk : ∀ c, cellB c = true → x.1 16 c.toNatClampNeg = tk c) (htc : ¬ m.1 0 6 = 0 → ∀ c, cellB c = true → clubB m (tk c) = true) (hK : ∀ j, j < 155 → x.2 14 j = 0 ∨ x.2 14 j = rJ m (fL m tk) j) {cell n : Int32} (hc : cellB cell = true) (hn : 0 ≤ n.toInt ∧ n.toInt ≤ 4) :
    ∃ x2, f_Reck_mean x cell n 1 = some (rowG m (fL m tk) n.toNatClampNeg cell, x2) ∧ sx [12, 14] x x2 ∧ (∀ i, i ≠ 7 → x2.1 12 i = x.1 12 i) ∧ x2.2 12 = x.2 12 ∧ x2.1 12 7 = 1 ∧ (∀ j, j < 155 → x2.2 14 j = 0 ∨ x2.2 14 j = rJ m (fL m tk) j) ∧ (∀ j, j < 31 * n.toNatClampNeg → x2.2 14 j = rJ m (fL m tk) j) := by
  have hf := okF_L hV htc
  have z0 : (0 : Int32).toInt = 0 := rfl
  have z4 : (4 : Int32).toInt = 4 := rfl
  have c1 := cellB_iff.mp hc
  have hnn := ti_mk hn.1
  have hcc := ti_mk c1.1
  obtain ⟨a1, a2, a3, a4⟩ := at_row0 hn hc
  have b1 : ¬ n < 0 := by rw [ti_lt]; omega
  have b2 : n ≤ 4 := by rw [ti_le]; omega
  have hgo : f_Reck_mean x cell n 1 = f_Reck_mean_65_l am_fu (am_pI x 12 7 1) n 1 14 155 (n * 31 + cell) 0 := by
    simp only [f_Reck_mean, f_Reck_mean_4, f_Reck_mean_7, f_Reck_mean_11, f_Reck_mean_18, f_Reck_mean_23, f_Reck_mean_34, f_Reck_mean_41, f_Reck_mean_54, v_Hole_isCell, hc, if_true, if_neg b1, if_pos b2]
  rw [hgo]
  let I : am_H → Prop := fun y => RH y m ∧ sx [12, 14] x y ∧ (∀ i, i ≠ 7 → y.1 12 i = x.1 12 i) ∧ y.2 12 = x.2 12 ∧ y.1 12 7 = 1 ∧ (∀ j, j < 155 → y.2 14 j = 0 ∨ y.2 14 j = rJ m (fL m tk) j)
  have hI0 : I (am_pI x 12 7 1) := by
    have s : sx [12] x (am_pI x 12 7 1) := sx.pI _ _ _ _ (by simp)
    refine ⟨hR.fx s (by decide), s.mono (by simp), fun i hi => ?_, rfl, ?_, hK⟩
    · simp [hI1, hi]
    · simp [hI1]
  obtain ⟨x2, r1, r2, r3⟩ := l_Reck_mean (m := m) (f := fL m tk) (p := 14) (w := 1) (n := n) (asked := n * 31 + cell) (N := n.toNatClampNeg) (A := 31 * n.toNatClampNeg + cell.toNatClampNeg) I (rJ_pos hV hf) (by omega) (by omega) (by omega) (by omega)
    (fun y hy => hy.2.2.2.2.2)
    (fun y a ha hy hrow => by
      obtain ⟨y1, y2, y3, y4, y5, y6⟩ := hy
      have e31 : a % 31 < 31 := Nat.mod_lt _ (by decide)
      have n1 : (Int32.ofNat (a / 31)).toNatClampNeg = a / 31 := nat_of (by omega)
      have n3 : (Int32.ofNat (a / 31)).toInt = (a / 31 : Nat) := Int32.toInt_ofNat_of_lt (by omega)
      have n4 : (Int32.ofNat (a % 31)).toInt = (a % 31 : Nat) := Int32.toInt_ofNat_of_lt (by omega)
      have hcl : cellB (Int32.ofNat (a % 31)) = true := cellB_iff.mpr (by omega)
      have ew := v_Reck_workOut1 y1 hV (tk := tk) (cell := Int32.ofNat (a % 31)) (n := Int32.ofNat (a / 31)) hcl (by omega) (by rw [(y2 16 (by decide)).1]; exact htk _ hcl) (fun h0 => htc h0 _ hcl) (fun h1 c hc2 => by
        rw [n1] at h1 ⊢
        have c3 := cellB_nat hc2
        rw [hrow h1 _ (by omega) (by omega), rJ_at m (fL m tk) hc2])
      rw [n1] at ew
      have hs : sx [14] y (am_pL y 14 a (rJ m (fL m tk) a)) := sx.pL _ _ _ _ (by simp)
      have e12 := hs 12 (by decide)
      refine ⟨y, ew, rfl, y1.fx hs (by decide), y2.tr (hs.mono (by simp)), by rw [e12.1]; exact y3, by rw [e12.2]; exact y4, by rw [e12.1]; exact y5, fun j hj => ?_⟩
      rw [hL2]
      by_cases q : j = a
      · rw [if_pos ⟨rfl, q⟩, q]; exact Or.inr rfl
      · rw [if_neg (fun u => q u.2)]; exact y6 j hj)
    (31 * n.toNatClampNeg + cell.toNatClampNeg + 1) am_fu 0 (am_pI x 12 7 1) (by unfold am_fu; omega) (by omega) (by decide) hI0 (fun j h1 => by omega)
  rw [rJ_at m (fL m tk) hc] at r1
  obtain ⟨y1, y2, y3, y4, y5, y6⟩ := r2
  exact ⟨x2, r1, y2, y3, y4, y5, y6, fun j hj => r3 j (Or.inl hj)⟩
theorem v_mean1 {x m : am_H} (hR : RH x m) (hV : VM m) {tk : Int32 → Int32} (htc : ¬ m.1 0 6 = 0 → ∀ c, cellB c = true → clubB m (tk c) = true) (hK : KT x m tk) (h8 : ¬ x.1 12 8 = 0) {cell n : Int32} (hc : cellB cell = true) (hn : 0 ≤ n.toInt ∧ n.toInt ≤ 4) :
    ∃ x2, f_Reck_mean x cell n 1 = some (rowG m (fL m tk) n.toNatClampNeg cell, x2) ∧ sx [12, 14] x x2 ∧ (∀ i, i ≠ 7 → x2.1 12 i = x.1 12 i) ∧ x2.2 12 = x.2 12 ∧ KT x2 m tk ∧ (∀ j, j < 31 * n.toNatClampNeg → x2.2 14 j = rJ m (fL m tk) j) := by
  have fin : ∀ x2 : am_H, sx [12, 14] x x2 → (∀ i, i ≠ 7 → x2.1 12 i = x.1 12 i) → x2.1 12 7 = 1 → (∀ j, j < 155 → x2.2 14 j = 0 ∨ x2.2 14 j = rJ m (fL m tk) j) → KT x2 m tk := by
    intro x2 b1 b2 b3 b4
    refine ⟨fun q => by rw [b3] at q; exact absurd q (by decide), b4, fun q h0 c hc => ?_⟩
    rw [(b1 16 (by decide)).1]
    exact hK.2.2 h8 h0 c hc
  by_cases h0 : m.1 0 6 = 0
  · have e1 := rJ_0 h0 (fL m tk) (fL m (fun c => x.1 16 c.toNatClampNeg))
    have e2 := rowG_0 h0 (fL m tk) (fL m (fun c => x.1 16 c.toNatClampNeg))
    have hk := hK.2.1
    rw [e1] at hk
    obtain ⟨x2, a1, a2, a3, a4, a5, a6, a7⟩ := v_mean1a hR hV (tk := fun c => x.1 16 c.toNatClampNeg) (fun _ _ => rfl) (fun q => absurd h0 q) hk hc hn
    rw [← e2] at a1
    rw [← e1] at a6 a7
    exact ⟨x2, a1, a2, a3, a4, fin x2 a2 a3 a5 a6, a7⟩
  · obtain ⟨x2, a1, a2, a3, a4, a5, a6, a7⟩ := v_mean1a hR hV (tk := tk) (fun c hc => hK.2.2 h8 h0 c hc) htc hK.2.1 hc hn
    exact ⟨x2, a1, a2, a3, a4, fin x2 a2 a3 a5 a6, a7⟩
theorem v_meanByLaw {x m : am_H} {L : Option ((Nat → Int32) → Int32)} (hL : RTL x m L) (hR : RH x m) (hV : VM m) {tk : Int32 → Int32} (htk : ∀ c, tk c = tkX L m (x.1 12 11) c 0) (hK : KT x m tk) {cell n : Int32} (hc : cellB cell = true) (hn : 0 ≤ n.toInt ∧ n.toInt ≤ 4) :
    ∃ x2, f_Reck_meanByLaw x cell n = some (rowG m (fL m tk) n.toNatClampNeg cell, x2) ∧ sx [10, 11, 12, 14, 16] x x2 ∧ (∀ i, i ≠ 7 → i ≠ 8 → x2.1 12 i = x.1 12 i) ∧ x2.2 12 = x.2 12 ∧ KT x2 m tk ∧ (∀ j, j < 31 * n.toNatClampNeg → x2.2 14 j = rJ m (fL m tk) j) := by
  obtain ⟨x1, a1, a2, a3, a4, a5, a6⟩ := v_findLawful hL hR hV htk hK
  obtain ⟨x2, b1, b2, b3, b4, b5, b6⟩ := v_mean1 (hR.fx a2 (by decide)) hV (fun h0 c _ => by rw [htk]; exact tkF_club hV h0 _) a6 a5 hc hn
  refine ⟨x2, ?_, (a2.mono (by simp)).tr (b2.mono (by simp)), fun i h1 h2 => by rw [b3 i h1, a3 i h2], by rw [b4, a4], b5, b6⟩
  unfold f_Reck_meanByLaw
  rw [a1, Option.bind_some]
  unfold f_Reck_meanByLaw_4
  rw [b1, Option.bind_some]; rfl
theorem v_Model_fills1 {x m : am_H} {L : Option ((Nat → Int32) → Int32)} (hL : RTL x m L) (hV : VM m) : ∃ m2, f_Model_fills m 1 = some m2 ∧ Jt m (fL m (fun c => tkX L m 0 c 0)) (fun _ c => tkX L m 0 c 0) m2 155 := by
  refine v_Model_fills hV (fun h0 k42 k49 y n c N hn hN hc hJ => ?_)
  obtain ⟨h1, h2, h3⟩ := id hJ
  have c1 := cellB_iff.mp hc
  have hnn : n.toNatClampNeg = N := by rw [ti_nat]; omega
  obtain ⟨-, a2, -, a4⟩ := at_row0 (n := n) (by omega) hc
  rw [hnn] at a4
  have ok : am_ok (31 * n + c) 155 = true := ok_of (by omega)
  have s1 : sm [11, 12, 13, 14, 15] [7, 8, 9, 10] m (am_pI y 9 (31 * N + c.toNatClampNeg) (-2)) := h1.tr (sm.pI _ _ _ _ (by decide) (by simp))
  have e1 : (am_pI y 9 (31 * N + c.toNatClampNeg) (-2)).1 1 = m.1 1 := (s1.2.2 1 (by decide) (by simp)).1
  have e6 : (am_pI y 9 (31 * N + c.toNatClampNeg) (-2)).1 0 6 = m.1 0 6 := s1.1 6 (by simp)
  have hV1 : VM (am_pI y 9 (31 * N + c.toNatClampNeg) (-2)) := hV.fr s1 (by simp) (by simp)
  have o9 : ∀ j, j ≠ 31 * N + c.toNatClampNeg → (am_pI y 9 (31 * N + c.toNatClampNeg) (-2)).1 9 j = y.1 9 j := by intro j hj; simp [hI1, hj]
  have o2 : (am_pI y 9 (31 * N + c.toNatClampNeg) (-2)).2 = y.2 := rfl
  generalize am_pI y 9 (31 * N + c.toNatClampNeg) (-2) = z at *
  obtain ⟨z2, t1, t2⟩ := v_takenFrom (hL.fm s1 (by simp) (by simp)) hV1 hc 0 (by rw [e6]; exact h0)
  rw [tkX_C e1 e6] at t1
  have hcl := tkF_club hV h0 (fun c' => rkS L m c c' 0 (blS m 0 c'))
  have htk : tkF (fun c' => rkS L m c c' 0 (blS m 0 c')) (m.1 0 6).toInt.toNat = tkX L m 0 c 0 := rfl
  rw [htk] at hcl
  generalize hq : tkX L m 0 c 0 = q at *
  have s2 : sm [11, 12, 13, 14, 15] [7, 8, 9, 10] z (am_pI z2 9 (31 * N + c.toNatClampNeg) q) := (t2.mono (by simp) (by simp)).tr (sm.pI _ _ _ _ (by decide) (by simp))
  have f1 : (am_pI z2 9 (31 * N + c.toNatClampNeg) q).1 1 = m.1 1 := ((s2.2.2 1 (by decide) (by simp)).1).trans e1
  have f6 : (am_pI z2 9 (31 * N + c.toNatClampNeg) q).1 0 6 = m.1 0 6 := (s2.1 6 (by simp)).trans e6
  have f8 : (am_pI z2 9 (31 * N + c.toNatClampNeg) q).2 8 = y.2 8 := by rw [hI2, (t2.2.2 8 (by decide) (by simp)).2, o2]
  have f10 : (am_pI z2 9 (31 * N + c.toNatClampNeg) q).2 10 = y.2 10 := by rw [hI2, (t2.2.2 10 (by decide) (by simp)).2, o2]
  have f9 : ∀ j, (am_pI z2 9 (31 * N + c.toNatClampNeg) q).1 9 j = if j = 31 * N + c.toNatClampNeg then q else z.1 9 j := by
    intro j
    rw [hI1]
    by_cases p : j = 31 * N + c.toNatClampNeg
    · rw [if_pos ⟨rfl, p⟩, if_pos p]
    · rw [if_neg (fun u => p u.2), if_neg p, (t2.2.2 9 (by decide) (by simp)).1]
  have hV2 : VM (am_pI z2 9 (31 * N + c.toNatClampNeg) q) := hV1.fr s2 (by simp) (by simp)
  have hgo : f_Model_fills_141 k42 k49 z 1 n c (31 * n + c) = (f_Model_byClub (am_pI z2 9 (31 * N + c.toNatClampNeg) q) c n ((am_pI z2 9 (31 * N + c.toNatClampNeg) q).1 9 (31 * N + c.toNatClampNeg))).bind fun p => f_Model_fills_178 k42 k49 (am_pI z2 9 (31 * N + c.toNatClampNeg) q) 1 n c p (31 * n + c) := by
    unfold f_Model_fills_141
    rw [if_pos rfl]
    unfold f_Model_fills_146
    rw [t1, Option.bind_some]
    unfold f_Model_fills_158
    rw [if_pos ok, if_pos ok, a4]
  rw [hgo]
  generalize am_pI z2 9 (31 * N + c.toNatClampNeg) q = w at *
  have hrow : ∀ c', cellB c' = true → w.2 8 (31 * (n.toNatClampNeg - 1) + c'.toNatClampNeg) = rowG m (fL m (fun c => tkX L m 0 c 0)) (N - 1) c' := by
    intro c' hc'
    have := cellB_nat hc'
    rw [hnn, f8, (h3 _ (by omega)).1, rJ_at m _ hc']
  have hby := v_Model_byClub hV2 (n := n) (c := q) (row := rowG m (fL m (fun c => tkX L m 0 c 0)) (N - 1)) hc (by rw [clubB_c f6]; exact hcl) (by omega) hrow (by rw [f10]; exact h2 _ (by omega))
  rw [byC_c f1, hnn] at hby
  rw [f9, if_pos rfl, hby, Option.bind_some]
  unfold f_Model_fills_178 f_Model_fills_288
  rw [if_pos ok, a4]
  refine ⟨_, rfl, (s1.tr s2).tr (sm.pL _ _ _ _ (by decide) (by simp)), fun j hj => ⟨?_, ?_⟩, ?_, ?_, ?_⟩
  · rw [hL2, if_neg (fun u => hj u.2), f8]
  · rw [hL1, f9, if_neg hj, o9 j hj]
  · funext j; rw [hL2, if_neg (by simp), f10]
  · rw [hL2, if_pos ⟨rfl, rfl⟩]
    unfold fL
    simp only []
    rw [hq]
  · rw [hL1, f9, if_pos rfl]
