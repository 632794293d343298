/-! what his belief costs -/
def Zm (m m2 : am_H) : Prop := (∀ p, (p < 43 ∨ 49 ≤ p) → m2.1 1 p = m.1 1 p) ∧ m2.1 0 6 = m.1 0 6
theorem z_goes {m m2 : am_H} (hz : Zm m m2) {cell : Int32} (hc : cellB cell = true) (carry : Int32) : goesS m2 cell carry = goesS m cell carry := by
  have h := cellB_nat hc
  unfold goesS
  rw [hz.1 49 (by omega), hz.1 50 (by omega), hz.1 cell.toNatClampNeg (by omega)]
theorem z_down {m m2 : am_H} (hz : Zm m m2) {cell : Int32} (hc : cellB cell = true) (carry s : Int32) : downS m2 cell carry s = downS m cell carry s := by
  unfold downS aimS
  rw [z_goes hz hc, hz.1 49 (by omega)]
theorem z_wa {m m2 : am_H} (hz : Zm m m2) {cell : Int32} (hc : cellB cell = true) : waB m2 cell = waB m cell := by
  have h := cellB_nat hc
  unfold waB
  rw [hz.1 49 (by omega), hz.1 cell.toNatClampNeg (by omega)]
theorem z_gr {m m2 : am_H} (hz : Zm m m2) {cell : Int32} (hc : cellB cell = true) : grB m2 cell = grB m cell := by
  have h := cellB_nat hc
  unfold grB
  rw [hz.1 49 (by omega), hz.1 cell.toNatClampNeg (by omega)]
theorem z_sum {m m2 : am_H} (hz : Zm m m2) {cell : Int32} (hc : cellB cell = true) {row row2 : Int32 → Int64} (hr : ∀ c, cellB c = true → row2 c = row c) (u : Int64) (carry : Int32) : ∀ (k : Nat) (s : Int32) (acc : Int64), sumC m2 row2 u cell carry k s acc = sumC m row u cell carry k s acc := by
  intro k
  induction k with
  | zero => intro s acc; rfl
  | succ k ih =>
    intro s acc
    simp only [sumC]
    have e : restS m2 cell carry s = restS m cell carry s := by
      unfold restS; rw [z_down hz hc, z_wa hz (downS_cell m cell carry s)]
    have e2 : wU m2 u cell carry s = wU m u cell carry s := by
      unfold wU; rw [z_down hz hc, z_wa hz (downS_cell m cell carry s)]
    rw [e, e2, hr _ (restS_cell hc carry s), ih]
theorem z_byC {m m2 : am_H} (hz : Zm m m2) (hV : VM m) {cell c : Int32} (hc : cellB cell = true) (hcl : clubB m c = true) {row row2 : Int32 → Int64} (hr : ∀ c, cellB c = true → row2 c = row c) (N : Nat) : byC m2 row2 N cell c = byC m row N cell c := by
  have h := clubB_nat hV hcl
  have e1 : caS m2 c = caS m c := hz.1 _ (by omega)
  have e2 : spS m2 c = spS m c := hz.1 _ (by omega)
  unfold byC
  rw [e1, e2, z_sum hz hc hr]
theorem z_row {m m2 : am_H} (hz : Zm m m2) (hV : VM m) {tk tk2 : Int32 → Int32} (htk : ¬ m.1 0 6 = 0 → ∀ c, cellB c = true → tk2 c = tk c) (htc : ¬ m.1 0 6 = 0 → ∀ c, cellB c = true → clubB m (tk c) = true) : ∀ (n : Nat) (c : Int32), cellB c = true → rowG m2 (fL m2 tk2) n c = rowG m (fL m tk) n c := by
  have e49 := hz.1 49 (by omega)
  have e51 := hz.1 51 (by omega)
  intro n
  induction n with
  | zero =>
    intro c hc
    simp only [rowG]
    rw [z_gr hz hc]
    unfold ptS unS
    rw [e49, e51]
  | succ n ih =>
    intro c hc
    simp only [rowG]
    rw [z_gr hz hc, hz.2]
    unfold ptS unS
    rw [e49, e51]
    by_cases h0 : m.1 0 6 = 0
    · rw [if_pos h0, if_pos h0]
    · rw [if_neg h0, if_neg h0]
      have e : fL m2 tk2 (rowG m2 (fL m2 tk2) n) (n + 1) c = fL m tk (rowG m (fL m tk) n) (n + 1) c := by
        unfold fL
        rw [htk h0 c hc]
        exact z_byC hz hV hc (htc h0 c hc) ih _
      rw [e]
theorem z_rk {m m2 : am_H} (hz : Zm m m2) (hV : VM m) (L : Option ((Nat → Int32) → Int32)) {cell c : Int32} (hc : cellB cell = true) (hcl : clubB m c = true) (told bel : Int32) : rkS L m2 cell c told bel = rkS L m cell c told bel := by
  have h := clubB_nat hV hcl
  have h2 := cellB_nat hc
  have e1 : caS m2 c = caS m c := hz.1 _ (by omega)
  have e2 : spS m2 c = spS m c := hz.1 _ (by omega)
  have e3 : dS m2 cell = dS m cell := by unfold dS; rw [hz.1 49 (by omega)]
  have e4 : nmS m2 cell c told bel = nmS m cell c told bel := by
    funext i; unfold nmS; rw [e1, e2, e3, hz.1 50 (by omega), hz.1 cell.toNatClampNeg (by omega)]
  unfold rkS
  rw [e1, e3, e4, hz.1 50 (by omega)]
theorem z_tk {m m2 : am_H} (hz : Zm m m2) (hV : VM m) (hb : ∀ c, clubB m c = true → beS m2 c = 0) (L : Option ((Nat → Int32) → Int32)) (h0 : ¬ m.1 0 6 = 0) {cell : Int32} (hc : cellB cell = true) (told : Int32) : tkX L m2 0 cell told = tkX L m 1 cell told := by
  have hcs := hV.2
  have z0 : (0 : Int32).toInt = 0 := rfl
  have z1 : (1 : Int32).toInt = 1 := rfl
  have hpos : 1 ≤ (m.1 0 6).toInt := by
    have : ¬ (m.1 0 6).toInt = (0 : Int32).toInt := fun q => h0 ((ti_eq _ _).mpr q)
    omega
  have key : ∀ c, clubB m c = true → rkS L m2 cell c told (blS m2 0 c) = rkS L m cell c told (blS m 1 c) := by
    intro c hcl
    unfold blS
    rw [if_pos rfl, if_neg (by decide), hb c hcl, z_rk hz hV L hc hcl]
  unfold tkX tkF
  rw [hz.2]
  dsimp only
  rw [key 0 (clubB_iff.mpr (by omega))]
  congr 1
  refine cfold_ext (lim := (m.1 0 6).toInt) (by omega) (fun c a h1 h2 => ?_) _ _ _ (by decide) (by omega)
  simp only [tkG, key c (clubB_iff.mpr ⟨h1, h2⟩)]
def drS (L : Option ((Nat → Int32) → Int32)) (m : am_H) : Int64 := rowG m (fL m (fun c => tkX L m 0 c 0)) 3 0 - rowG m (fL m (fun c => tkX L m 1 c 0)) 3 0
def KD (x m : am_H) (L : Option ((Nat → Int32) → Int32)) : Prop := ¬ x.1 12 10 = 0 → x.2 12 14 = drS L m
theorem drS_C {m m2 : am_H} (e1 : m2.1 1 = m.1 1) (e6 : m2.1 0 6 = m.1 0 6) (L : Option ((Nat → Int32) → Int32)) : drS L m2 = drS L m := by
  unfold drS; rw [tkX_C e1 e6, fL_c e1, rowG_c e1 e6]
/-- the class finds what it costs -/
theorem v_cost {x m : am_H} {L : Option ((Nat → Int32) → Int32)} (hL : RTL x m L) (hR : RH x m) (hV : VM m) (hu : x.1 12 11 = 0) (hK : KLw x m L) (hD : KD x m L) :
    ∃ x2, f_Reck_costOfBelief x = some (drS L m, x2) ∧ KLw x2 m L ∧ x2.2 12 14 = drS L m ∧ ¬ x2.1 12 10 = 0 ∧ sx [10, 11, 12, 14, 16] x x2 ∧ (∀ i, i ≠ 7 → i ≠ 8 → i ≠ 10 → x2.1 12 i = x.1 12 i) ∧ (∀ i, i ≠ 14 → x2.2 12 i = x.2 12 i) := by
  unfold f_Reck_costOfBelief
  by_cases e : x.1 12 10 = 0
  · rw [if_pos e]
    have hc : cellB 0 = true := by decide
    have n3 : (3 : Int32).toNatClampNeg = 3 := rfl
    obtain ⟨x1, a1, a2, a3, a4, a5, -⟩ := v_meanByLaw hL hR hV (tk := fun c => tkX L m 0 c 0) (fun c => by rw [hu]) hK hc (n := 3) (by decide)
    rw [n3] at a1
    have p1 : sx [12] x1 (am_pI x1 12 11 1) := sx.pI _ _ _ _ (by simp)
    have p7 : (am_pI x1 12 11 1).1 12 7 = x1.1 12 7 := by simp [hI1]
    obtain ⟨x2, b1, b2, b3, b4, b5, b6, b7⟩ := v_forgetLawful (x := am_pI x1 12 11 1) (fun q j hj => a5.1 (p7 ▸ q) j hj)
    have hs2 : sx [10, 11, 12, 14, 16] x x2 := (a2.tr (p1.mono (by simp))).tr (b5.mono (by simp))
    have u2 : x2.1 12 11 = 1 := by rw [b6 11 (by decide) (by decide)]; simp [hI1]
    have hK2 : KT x2 m (fun c => tkX L m 1 c 0) := ⟨fun _ => b2, fun j hj => Or.inl (b2 j hj), fun q => absurd b4 q⟩
    obtain ⟨x3, c1, c2, c3, c4, c5, -⟩ := v_meanByLaw (hL.fx hs2 (by decide)) (hR.fx hs2 (by decide)) hV (tk := fun c => tkX L m 1 c 0) (fun c => by rw [u2]) hK2 hc (n := 3) (by decide)
    rw [n3] at c1
    have q1 : sx [12] x3 (am_pI x3 12 11 0) := sx.pI _ _ _ _ (by simp)
    have q7 : (am_pI x3 12 11 0).1 12 7 = x3.1 12 7 := by simp [hI1]
    obtain ⟨x4, d1, d2, d3, d4, d5, d6, d7⟩ := v_forgetLawful (x := am_pI x3 12 11 0) (fun q j hj => c5.1 (q7 ▸ q) j hj)
    have hv : rowG m (fL m (fun c => tkX L m 0 c 0)) 3 0 - rowG m (fL m (fun c => tkX L m 1 c 0)) 3 0 = drS L m := rfl
    have hgo : f_Reck_costOfBelief_12 x = f_Reck_costOfBelief_44 x4 (rowG m (fL m (fun c => tkX L m 0 c 0)) 3 0) (rowG m (fL m (fun c => tkX L m 1 c 0)) 3 0) := by
      unfold f_Reck_costOfBelief_12
      rw [a1, Option.bind_some]
      unfold f_Reck_costOfBelief_18
      rw [b1, Option.bind_some]
      unfold f_Reck_costOfBelief_28
      rw [c1, Option.bind_some]
      unfold f_Reck_costOfBelief_34
      rw [d1, Option.bind_some]
    rw [hgo]
    unfold f_Reck_costOfBelief_44
    rw [hv]
    have r1 : sx [12] x4 (am_pI (am_pL x4 12 14 (drS L m)) 12 10 1) := (sx.pL _ _ _ _ (by simp)).tr (sx.pI _ _ _ _ (by simp))
    have v14 : (am_pI (am_pL x4 12 14 (drS L m)) 12 10 1).2 12 14 = drS L m := by simp [hI2, hL2]
    have s7 : (am_pI (am_pL x4 12 14 (drS L m)) 12 10 1).1 12 7 = x4.1 12 7 := by simp [hI1, hL1]
    have s8 : (am_pI (am_pL x4 12 14 (drS L m)) 12 10 1).1 12 8 = x4.1 12 8 := by simp [hI1, hL1]
    have s10 : (am_pI (am_pL x4 12 14 (drS L m)) 12 10 1).1 12 10 = 1 := by simp [hI1]
    have sI : ∀ i, i ≠ 10 → (am_pI (am_pL x4 12 14 (drS L m)) 12 10 1).1 12 i = x4.1 12 i := fun i hi => by simp [hI1, hL1, hi]
    have sL : ∀ i, i ≠ 14 → (am_pI (am_pL x4 12 14 (drS L m)) 12 10 1).2 12 i = x4.2 12 i := fun i hi => by simp [hI2, hL2, hi]
    generalize am_pI (am_pL x4 12 14 (drS L m)) 12 10 1 = y at *
    refine ⟨y, by rw [v14], ?_, v14, by rw [s10]; decide, ((((hs2.tr c2).tr (q1.mono (by simp))).tr (d5.mono (by simp))).tr (r1.mono (by simp))), fun i h1 h2 h3 => ?_, fun i h1 => ?_⟩
    · have e14 := (r1 14 (by decide)).2
      refine ⟨fun _ => by rw [e14]; exact d2, fun j hj => by rw [e14]; exact Or.inl (d2 j hj), fun q => ?_⟩
      rw [s8, d4] at q
      exact absurd rfl q
    · rw [sI i h3, d6 i h1 h2]
      by_cases q : i = 11
      · subst q
        rw [hI1, if_pos ⟨rfl, rfl⟩, hu]
      · rw [hI1, if_neg (fun z => q z.2), c3 i h1 h2, b6 i h1 h2, hI1, if_neg (fun z => q z.2), a3 i h1 h2]
    · rw [sL i h1, d7, hI2, c4, b7, hI2, a4]
  · rw [if_neg e]
    refine ⟨x, ?_, hK, hD e, e, sx.rf _ _, fun _ _ _ _ => rfl, fun _ _ => rfl⟩
    unfold f_Reck_costOfBelief_7
    rw [hD e]
theorem v_fromTee1 {x m : am_H} {L : Option ((Nat → Int32) → Int32)} (hL : RTL x m L) (hV : VM m) : ∃ m2, f_Model_fromTee m 1 = some (rowG m (fL m (fun c => tkX L m 0 c 0)) 3 0, m2) ∧ sm [11, 12, 13, 14, 15] [7, 8, 9, 10] m m2 ∧ m2.2 10 3 = Un 3 := by
  obtain ⟨m2, q1, q2, q3, q4⟩ := v_Model_fills1 hL hV
  have e := (q4 93 (by omega)).1
  have hc : cellB 0 = true := by decide
  have e2 := rJ_at m (fL m (fun c => tkX L m 0 c 0)) (n := 3) hc
  refine ⟨m2, ?_, q2, q3 3 (by omega)⟩
  unfold f_Model_fromTee
  rw [q1, Option.bind_some]
  unfold f_Model_fromTee_5
  rw [show (93 : Int32).toNatClampNeg = 93 from rfl, e]
  exact congrArg (fun z => some (z, m2)) e2
/-- the model lays his beliefs aside, up to club i -/
def ZI (m y : am_H) (i : Nat) : Prop := sm [11, 12, 13, 14, 15] [1, 7, 8, 9, 10, 11] m y ∧ (∀ p, (p < 43 ∨ 49 ≤ p) → y.1 1 p = m.1 1 p) ∧ (∀ c, c < i → y.1 1 (43 + c) = 0 ∧ y.1 11 c = m.1 1 (43 + c)) ∧ ∀ c, i ≤ c → c < 6 → y.1 1 (43 + c) = m.1 1 (43 + c)
theorem l_aside {m : am_H} (hV : VM m) (part : Int32) (w : Int64) : ∀ (k fu : Nat) (y : am_H) (i : Int32) (j : Nat), ZI m y j → i.toInt = j → (j : Int) + k = (m.1 0 6).toInt → k < fu →
    ∃ y2, f_Model_dream_23_l fu y part w i = f_Model_dream_66 y2 part w ∧ ZI m y2 (m.1 0 6).toInt.toNat := by
  have hcs := hV.2
  intro k
  induction k with
  | zero =>
    intro fu y i j hZ hi hk hf
    obtain ⟨g, rfl⟩ : ∃ g, fu = g + 1 := ⟨fu - 1, by omega⟩
    have e6 : y.1 0 6 = m.1 0 6 := hZ.1.1 6 (by simp)
    have ej : (m.1 0 6).toInt.toNat = j := by omega
    refine ⟨y, ?_, by rw [ej]; exact hZ⟩
    show f_Model_dream_23 _ y part w i = _
    unfold f_Model_dream_23
    rw [if_pos (by rw [e6, ti_le]; omega)]
  | succ k ih =>
    intro fu y i j hZ hi hk hf
    obtain ⟨g, rfl⟩ : ∃ g, fu = g + 1 := ⟨fu - 1, by omega⟩
    obtain ⟨z1, z2, z3, z4⟩ := id hZ
    have e6 : y.1 0 6 = m.1 0 6 := z1.1 6 (by simp)
    have z43 : (43 : Int32).toInt = 43 := rfl
    have t43 : (43 + i).toInt = (43 + j : Nat) := by rw [ti_add, z43]; omega
    have n43 : (43 + i).toNatClampNeg = 43 + j := i_nat t43
    have nj : i.toNatClampNeg = j := i_nat hi
    have s1 : sm [11, 12, 13, 14, 15] [1, 7, 8, 9, 10, 11] y (am_pI (am_pI y 11 j (y.1 1 (43 + j))) 1 (43 + j) 0) := (sm.pI _ _ _ _ (by decide) (by simp)).tr (sm.pI _ _ _ _ (by decide) (by simp))
    have r1 : ∀ p, (am_pI (am_pI y 11 j (y.1 1 (43 + j))) 1 (43 + j) 0).1 1 p = if p = 43 + j then 0 else y.1 1 p := by
      intro p; by_cases q : p = 43 + j <;> simp [hI1, q]
    have r11 : ∀ p, (am_pI (am_pI y 11 j (y.1 1 (43 + j))) 1 (43 + j) 0).1 11 p = if p = j then y.1 1 (43 + j) else y.1 11 p := by
      intro p; by_cases q : p = j <;> simp [hI1, q]
    have hgo : f_Model_dream_23_l (g + 1) y part w i = f_Model_dream_23_l g (am_pI (am_pI y 11 j (y.1 1 (43 + j))) 1 (43 + j) 0) part w (i + 1) := by
      show f_Model_dream_23 _ y part w i = _
      unfold f_Model_dream_23
      rw [if_neg (by rw [e6, ti_le]; omega)]
      unfold f_Model_dream_32
      rw [if_pos (ok_of (by omega)), if_pos (ok_of (by omega)), n43, nj]
    generalize am_pI (am_pI y 11 j (y.1 1 (43 + j))) 1 (43 + j) 0 = y1 at *
    have hz3 : ∀ c, c < j + 1 → y1.1 1 (43 + c) = 0 ∧ y1.1 11 c = m.1 1 (43 + c) := by
      intro c hc
      rw [r1, r11]
      by_cases q : c = j
      · rw [if_pos (by omega), if_pos q, q]; exact ⟨rfl, z4 j (Nat.le_refl _) (by omega)⟩
      · rw [if_neg (by omega), if_neg q]; exact z3 c (by omega)
    obtain ⟨y2, i1, i2⟩ := ih g y1 (i + 1) (j + 1) ⟨z1.tr s1, fun p hp => by rw [r1, if_neg (by omega)]; exact z2 p hp, hz3, fun c h1 h2 => by rw [r1, if_neg (by omega)]; exact z4 c (by omega) h2⟩ (i_next hi (by omega)) (by omega) (by omega)
    exact ⟨y2, hgo.trans i1, i2⟩
/-- and lays them back -/
def ZJ (m y : am_H) (i : Nat) : Prop := sm [11, 12, 13, 14, 15] [1, 7, 8, 9, 10, 11] m y ∧ (∀ p, (p < 43 ∨ 49 ≤ p) → y.1 1 p = m.1 1 p) ∧ (∀ c, c < i → y.1 1 (43 + c) = m.1 1 (43 + c)) ∧ (∀ c : Nat, i ≤ c → (c : Int) < (m.1 0 6).toInt → y.1 11 c = m.1 1 (43 + c)) ∧ ∀ c : Nat, (m.1 0 6).toInt ≤ c → c < 6 → y.1 1 (43 + c) = m.1 1 (43 + c)
theorem l_back {m : am_H} (hV : VM m) (part : Int32) (w v : Int64) : ∀ (k fu : Nat) (y : am_H) (i : Int32) (j : Nat), ZJ m y j → i.toInt = j → (j : Int) + k = (m.1 0 6).toInt → k < fu → y.2 10 3 = Un 3 →
    ∃ y2, f_Model_dream_76_l fu y part w v i = f_Model_dream_108 y2 part w v ∧ ZJ m y2 (m.1 0 6).toInt.toNat ∧ y2.2 10 3 = Un 3 := by
  have hcs := hV.2
  intro k
  induction k with
  | zero =>
    intro fu y i j hZ hi hk hf hu
    obtain ⟨g, rfl⟩ : ∃ g, fu = g + 1 := ⟨fu - 1, by omega⟩
    have e6 : y.1 0 6 = m.1 0 6 := hZ.1.1 6 (by simp)
    have ej : (m.1 0 6).toInt.toNat = j := by omega
    refine ⟨y, ?_, by rw [ej]; exact hZ, hu⟩
    show f_Model_dream_76 _ y part w v i = _
    unfold f_Model_dream_76
    rw [if_pos (by rw [e6, ti_le]; omega)]
  | succ k ih =>
    intro fu y i j hZ hi hk hf hu
    obtain ⟨g, rfl⟩ : ∃ g, fu = g + 1 := ⟨fu - 1, by omega⟩
    obtain ⟨z1, z2, z3, z4, z5⟩ := id hZ
    have e6 : y.1 0 6 = m.1 0 6 := z1.1 6 (by simp)
    have z43 : (43 : Int32).toInt = 43 := rfl
    have t43 : (43 + i).toInt = (43 + j : Nat) := by rw [ti_add, z43]; omega
    have n43 : (43 + i).toNatClampNeg = 43 + j := i_nat t43
    have nj : i.toNatClampNeg = j := i_nat hi
    have s1 : sm [11, 12, 13, 14, 15] [1, 7, 8, 9, 10, 11] y (am_pI y 1 (43 + j) (y.1 11 j)) := sm.pI _ _ _ _ (by decide) (by simp)
    have r1 : ∀ p, (am_pI y 1 (43 + j) (y.1 11 j)).1 1 p = if p = 43 + j then y.1 11 j else y.1 1 p := by
      intro p; by_cases q : p = 43 + j <;> simp [hI1, q]
    have r11 : (am_pI y 1 (43 + j) (y.1 11 j)).1 11 = y.1 11 := by funext p; simp [hI1]
    have r10 : (am_pI y 1 (43 + j) (y.1 11 j)).2 10 3 = Un 3 := hu
    have hgo : f_Model_dream_76_l (g + 1) y part w v i = f_Model_dream_76_l g (am_pI y 1 (43 + j) (y.1 11 j)) part w v (i + 1) := by
      show f_Model_dream_76 _ y part w v i = _
      unfold f_Model_dream_76
      rw [if_neg (by rw [e6, ti_le]; omega)]
      unfold f_Model_dream_85
      rw [if_pos (ok_of (by omega)), if_pos (ok_of (by omega)), n43, nj]
    generalize am_pI y 1 (43 + j) (y.1 11 j) = y1 at *
    have hz3 : ∀ c, c < j + 1 → y1.1 1 (43 + c) = m.1 1 (43 + c) := by
      intro c hc
      rw [r1]
      by_cases q : c = j
      · rw [if_pos (by omega), q]; exact z4 j (Nat.le_refl _) (by omega)
      · rw [if_neg (by omega)]; exact z3 c (by omega)
    obtain ⟨y2, i1, i2, i3⟩ := ih g y1 (i + 1) (j + 1) ⟨z1.tr s1, fun p hp => by rw [r1, if_neg (by omega)]; exact z2 p hp, hz3, fun c h1 h2 => by rw [r11]; exact z4 c (by omega) h2, fun c h1 h2 => by rw [r1, if_neg (by omega)]; exact z5 c h1 h2⟩ (i_next hi (by omega)) (by omega) (by omega) r10
    exact ⟨y2, hgo.trans i1, i2, i3⟩
theorem ZI.v {m y : am_H} {i : Nat} (hV : VM m) (h : ZI m y i) : VM y := by
  obtain ⟨z1, z2, z3, z4⟩ := h
  refine ⟨fun p hp => ?_, by rw [z1.1 6 (by simp)]; exact hV.2⟩
  by_cases q : p < 43 ∨ 49 ≤ p
  · rw [z2 p q]; exact hV.1 p hp
  · obtain ⟨c, rfl⟩ : ∃ c, p = 43 + c := ⟨p - 43, by omega⟩
    by_cases w : c < i
    · rw [(z3 c w).1]
      have b := hV.1 (43 + c) hp
      have z0 : (0 : Int32).toInt = 0 := rfl
      unfold vlo vhi
      rw [if_neg (by omega), if_neg (by omega), if_neg (by omega), if_neg (by omega), if_neg (by omega), if_pos (by omega)]
      omega
    · rw [z4 c (by omega) (by omega)]; exact hV.1 (43 + c) hp
theorem E_dream {x m : am_H} {L : Option ((Nat → Int32) → Int32)} (hL : RTL x m L) (hR : RH x m) (hV : VM m) (hu : x.1 12 11 = 0) (hK : KLw x m L) (hD : KD x m L) (part : Int32) : ∃ r x2 m2, f_Club_dream x part = some (r, x2) ∧ f_Model_dream m part = some (r, m2) ∧ KLw x2 m2 L ∧ KD x2 m2 L ∧ sx [10, 11, 12, 14, 16] x x2 ∧ (∀ i, i ≠ 7 → i ≠ 8 → i ≠ 10 → x2.1 12 i = x.1 12 i) ∧ (∀ i, i ≠ 14 → x2.2 12 i = x.2 12 i) ∧ sm [11, 12, 13, 14, 15] [1, 7, 8, 9, 10, 11] m m2 ∧ m2.1 1 = m.1 1 := by
  have y0 : (0 : Int64).toInt = 0 := rfl
  have y1 : (1 : Int64).toInt = 1 := rfl
  have hcs := hV.2
  unfold f_Club_dream f_Model_dream f_Club_dream_4 f_Model_dream_7
  rw [v_Club_isFractionPart, v_Model_within32, y0, y1]
  by_cases hp : 0 ≤ part.toInt ∧ part.toInt ≤ 1
  · rw [if_pos (decide_eq_true hp), if_pos (decide_eq_true hp)]
    obtain ⟨x2, a1, a2, a3, a4, a5, a6, a7⟩ := v_cost hL hR hV hu hK hD
    obtain ⟨m1, b1, b2, b3⟩ := v_fromTee1 hL hV
    have e1 := (b2.2.2 1 (by decide) (by simp)).1
    have hZ0 : ZI m m1 0 := ⟨b2.mono (by simp) (by simp), fun p _ => by rw [e1], fun c hc => by omega, fun c _ _ => by rw [e1]⟩
    obtain ⟨m2, c1, c2⟩ := l_aside hV part (rowG m (fL m (fun c => tkX L m 0 c 0)) 3 0) (m.1 0 6).toInt.toNat am_fu m1 0 0 hZ0 (by decide) (by omega) (by unfold am_fu; omega)
    obtain ⟨z1, z2, z3, z4⟩ := id c2
    have hZm : Zm m m2 := ⟨z2, z1.1 6 (by simp)⟩
    obtain ⟨m3, d1, d2, d3⟩ := v_fromTee1 (hL.fm z1 (by simp) (by simp)) (c2.v hV)
    have hrow : rowG m2 (fL m2 (fun c => tkX L m2 0 c 0)) 3 0 = rowG m (fL m (fun c => tkX L m 1 c 0)) 3 0 :=
      z_row hZm hV (fun h0 c hc => z_tk hZm hV (fun c hcl => by
        have h1 := clubB_iff.mp hcl
        unfold beS
        exact (z3 c.toNatClampNeg (by rw [ti_nat]; omega)).1) L h0 hc 0) (fun h0 c _ => tkX_club hV h0 L 1 c 0) 3 0 (by decide)
    rw [hrow] at d1
    have f1 := (d2.2.2 1 (by decide) (by simp)).1
    have f11 := (d2.2.2 11 (by decide) (by simp)).1
    have hZJ : ZJ m m3 0 := ⟨z1.tr (d2.mono (by simp) (by simp)), fun p hp => by rw [f1]; exact z2 p hp, fun c hc => by omega, fun c _ h2 => by rw [f11]; exact (z3 c (by omega)).2, fun c h1 h2 => by rw [f1]; exact z4 c (by omega) h2⟩
    obtain ⟨m4, g1, g2, g3⟩ := l_back hV part (rowG m (fL m (fun c => tkX L m 0 c 0)) 3 0) (rowG m (fL m (fun c => tkX L m 1 c 0)) 3 0) (m.1 0 6).toInt.toNat am_fu m3 0 0 hZJ (by decide) (by omega) (by unfold am_fu; omega) d3
    have hm1 : m4.1 1 = m.1 1 := by
      funext p
      by_cases q : p < 43 ∨ 49 ≤ p
      · exact g2.2.1 p q
      · obtain ⟨c, rfl⟩ : ∃ c, p = 43 + c := ⟨p - 43, by omega⟩
        by_cases w : (c : Int) < (m.1 0 6).toInt
        · exact g2.2.2.1 c (by omega)
        · exact g2.2.2.2.2 c (by omega) (by omega)
    have e6 : m4.1 0 6 = m.1 0 6 := g2.1.1 6 (by simp)
    have hu3 := Un_t (n := 3) (by omega)
    have hb1 := rowG_b hV (okF_L hV (tk := fun c => tkX L m 0 c 0) (fun h0 c _ => tkX_club hV h0 L 0 c 0)) 3 (by omega) 0 (by decide)
    have hb2 := rowG_b hV (okF_L hV (tk := fun c => tkX L m 1 c 0) (fun h0 c _ => tkX_club hV h0 L 1 c 0)) 3 (by omega) 0 (by decide)
    rw [rT3] at hb1 hb2
    have hu4 : uT 3 = 13891500 := by decide
    have hsub := tl_sub (rowG m (fL m (fun c => tkX L m 0 c 0)) 3 0) (rowG m (fL m (fun c => tkX L m 1 c 0)) 3 0)
    have hdr : drS L m = rowG m (fL m (fun c => tkX L m 0 c 0)) 3 0 - rowG m (fL m (fun c => tkX L m 1 c 0)) 3 0 := rfl
    obtain ⟨r, t1, t2⟩ := p_partOf (a := drS L m) (b := Un 3) (part := part) (by rw [hdr]; omega) (by omega) (by
      rw [ti_eq, ti_eq]
      have z0 : (0 : Int32).toInt = 0 := rfl
      have z1 : (1 : Int32).toInt = 1 := rfl
      omega)
    refine ⟨r, x2, m4, ?_, ?_, KLw.fm a2 hm1 e6, fun _ => by rw [drS_C hm1 e6]; exact a3, a5, a6, a7, g2.1, hm1⟩
    · unfold f_Club_dream_11
      rw [a1, Option.bind_some]
      unfold f_Club_dream_18
      rw [v_Reck_unit (n := 3) (by decide), Option.bind_some, show (3 : Int32).toNatClampNeg = 3 from rfl]
      unfold f_Club_dream_22
      rw [t1]; rfl
    · unfold f_Model_dream_14
      rw [b1, Option.bind_some]
      unfold f_Model_dream_19
      rw [c1]
      unfold f_Model_dream_66
      rw [d1, Option.bind_some]
      unfold f_Model_dream_71
      rw [g1]
      unfold f_Model_dream_108
      rw [← hdr, show (3 : Int32).toNatClampNeg = 3 from rfl, g3, t2]; rfl
  · rw [decide_eq_false hp]
    exact ⟨_, x, m, rfl, rfl, hK, hD, sx.rf _ _, fun _ _ _ _ => rfl, fun _ _ => rfl, sm.rf _ _ _, rfl⟩
