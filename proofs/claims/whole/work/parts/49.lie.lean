/-! STROKES BY THE LAW; the best lie -/
def KLw (x m : am_H) (L : Option ((Nat → Int32) → Int32)) : Prop := KT x m (fun c => tkX L m 0 c 0)
theorem KLw.fm {x m m2 : am_H} {L : Option ((Nat → Int32) → Int32)} (h : KLw x m L) (e1 : m2.1 1 = m.1 1) (e6 : m2.1 0 6 = m.1 0 6) : KLw x m2 L := by
  unfold KLw KT at *
  rw [tkX_C e1 e6, rJ_c e1 e6, fL_c e1, e6]
  exact h
def RLw (x m : am_H) (L : Option ((Nat → Int32) → Int32)) (fx fm : Option (Int64 × am_H)) : Prop := ∃ r x2 m2, fx = some (r, x2) ∧ fm = some (r, m2) ∧ KLw x2 m2 L ∧ sx [10, 11, 12, 14, 16] x x2 ∧ (∀ i, i ≠ 7 → i ≠ 8 → x2.1 12 i = x.1 12 i) ∧ x2.2 12 = x.2 12 ∧ sm [11, 12, 13, 14, 15] [7, 8, 9, 10] m m2
theorem RLw.no {x m : am_H} {L : Option ((Nat → Int32) → Int32)} (hK : KLw x m L) (r : Int64) : RLw x m L (some (r, x)) (some (r, m)) :=
  ⟨r, x, m, rfl, rfl, hK, sx.rf _ _, fun _ _ _ => rfl, rfl, sm.rf _ _ _⟩
theorem tkX_club {m : am_H} (hV : VM m) (h0 : ¬ m.1 0 6 = 0) (L : Option ((Nat → Int32) → Int32)) (und cell told : Int32) : clubB m (tkX L m und cell told) = true := tkF_club hV h0 _
theorem E_byLaw {x m : am_H} {L : Option ((Nat → Int32) → Int32)} (hL : RTL x m L) (hR : RH x m) (hV : VM m) (hu : x.1 12 11 = 0) (hK : KLw x m L) (cell n part : Int32) : RLw x m L (f_Club_byLaw x cell n part) (f_Model_byLaw m cell n part) := by
  have z0 : (0 : Int32).toInt = 0 := rfl
  have z4 : (4 : Int32).toInt = 4 := rfl
  have y0 : (0 : Int64).toInt = 0 := rfl
  have y1 : (1 : Int64).toInt = 1 := rfl
  have y4 : (4 : Int64).toInt = 4 := rfl
  unfold f_Club_byLaw f_Model_byLaw f_Club_byLaw_4 f_Model_byLaw_5
  rw [v_Hole_isCell, v_Model_isCell32]
  cases hc : cellB cell with
  | false => exact RLw.no hK _
  | true =>
    rw [if_pos rfl, if_pos rfl]
    unfold f_Club_byLaw_7 f_Club_byLaw_11 f_Club_byLaw_16 f_Club_byLaw_20 f_Model_byLaw_8 f_Model_byLaw_17 f_Model_byLaw_20 f_Model_byLaw_27
    rw [v_Club_isFractionPart, v_Model_within32, v_Model_within32, y0, y1, y4]
    by_cases hn : 0 ≤ n.toInt ∧ n.toInt ≤ 4
    · rw [if_neg (by rw [ti_lt]; omega), if_neg (by rw [ti_lt]; omega), if_pos (decide_eq_true hn)]
      by_cases hp : 0 ≤ part.toInt ∧ part.toInt ≤ 1
      · rw [if_pos (decide_eq_true hp), if_pos (decide_eq_true hp)]
        obtain ⟨x2, a1, a2, a3, a4, a5, -⟩ := v_meanByLaw hL hR hV (tk := fun c => tkX L m 0 c 0) (fun c => by rw [hu]) hK hc hn
        obtain ⟨m2, q1, q2, q3, q4⟩ := v_Model_fills1 hL hV
        have hN : n.toNatClampNeg ≤ 4 := by rw [ti_nat]; omega
        have hcn := cellB_nat hc
        obtain ⟨-, b2, -, b4⟩ := at_row0 hn hc
        have c1 := cellB_iff.mp hc
        obtain ⟨w8, -⟩ := q4 (31 * n.toNatClampNeg + cell.toNatClampNeg) (by omega)
        rw [rJ_at m _ hc] at w8
        have w10 := q3 n.toNatClampNeg (by omega)
        have hpp : part = 0 ∨ part = 1 := by
          rw [ti_eq, ti_eq]
          have z1 : (1 : Int32).toInt = 1 := rfl
          omega
        obtain ⟨r, s1, s2⟩ := row_part hV (okF_L hV (tk := fun c => tkX L m 0 c 0) (fun h0 c _ => tkX_club hV h0 L 0 c 0)) hc hN hpp
        refine ⟨r, x2, m2, ?_, ?_, KLw.fm a5 (q2.2.2 1 (by decide) (by simp)).1 (q2.1 6 (by simp)), a2, a3, a4, q2⟩
        · unfold f_Club_byLaw_27
          rw [a1, Option.bind_some]
          unfold f_Club_byLaw_36
          rw [v_Reck_unit hn, Option.bind_some]
          unfold f_Club_byLaw_40
          rw [s1]; rfl
        · unfold f_Model_byLaw_34
          rw [q1, Option.bind_some]
          unfold f_Model_byLaw_39
          rw [if_pos (ok_of (by omega)), if_pos (ok_of (by omega)), b4, w8, w10, s2]; rfl
      · rw [decide_eq_false hp]
        exact RLw.no hK _
    · rw [decide_eq_false hn]
      by_cases b1 : n < 0
      · rw [if_pos b1]; exact RLw.no hK _
      · rw [if_neg b1, if_pos (by rw [ti_lt]; rw [ti_lt] at b1; omega)]; exact RLw.no hK _
/-! lies -/
def stL (W : Int32 → Int64) (q : Int32 → Int32) (y : Int32) (a : Int32 × Int64) : Int32 × Int64 := if W (q y) < a.2 then (y, W (q y)) else a
def lieF (W : Int32 → Int64) (q : Int32 → Int32) : Nat → Int32 → Int32 × Int64 → Int32 × Int64
  | 0, _, a => a
  | k + 1, v, a => lieF W q k (v + 1) (stL W q v (stL W q (-v) a))
theorem stL_at {W : Int32 → Int64} {q : Int32 → Int32} {y : Int32} {a : Int32 × Int64} (h : a.2 = W (q a.1)) : (stL W q y a).2 = W (q (stL W q y a).1) := by
  unfold stL
  split
  · rfl
  · exact h
theorem lieF_at {W : Int32 → Int64} {q : Int32 → Int32} : ∀ (k : Nat) (v : Int32) (a : Int32 × Int64), a.2 = W (q a.1) → (lieF W q k v a).2 = W (q (lieF W q k v a).1) := by
  intro k
  induction k with
  | zero => intro v a h; exact h
  | succ k ih => intro v a h; exact ih _ _ (stL_at (stL_at h))
/-- that one shot as he takes it told so much more, then by the law -/
def toldS (L : Option ((Nat → Int32) → Int32)) (m : am_H) (N : Nat) (cell told : Int32) : Int64 := byC m (rowG m (fL m (fun c => tkX L m 0 c 0)) (N - 1)) N cell (tkX L m 0 cell told)
/-- the class has what it needs for lies -/
def IC (x m : am_H) (L : Option ((Nat → Int32) → Int32)) (N : Nat) : Prop := RTL x m L ∧ RH x m ∧ x.1 12 11 = 0 ∧ ∀ j, j < 31 * N → x.2 14 j = rJ m (fL m (fun c => tkX L m 0 c 0)) j
theorem IC.fx {x x2 m : am_H} {L : Option ((Nat → Int32) → Int32)} {N : Nat} (h : IC x m L N) (s : sx [10, 11] x x2) : IC x2 m L N := by
  obtain ⟨h1, h2, h3, h4⟩ := h
  exact ⟨h1.fx s (by decide), h2.fx s (by decide), by rw [(s 12 (by decide)).1]; exact h3, by rw [(s 14 (by decide)).2]; exact h4⟩
theorem v_meanTold {x m : am_H} {L : Option ((Nat → Int32) → Int32)} (hV : VM m) (h0 : ¬ m.1 0 6 = 0) {cell n : Int32} (hc : cellB cell = true) (hn : 1 ≤ n.toInt ∧ n.toInt ≤ 4) (h : IC x m L n.toNatClampNeg) (told : Int32) : ∃ x2, f_Reck_meanTold x cell n told = some (toldS L m n.toNatClampNeg cell told, x2) ∧ sx [10, 11] x x2 := by
  obtain ⟨r, x2, a1, a2, a3⟩ := v_clubTold h.1 h.2.1 hV hc told
  have a4 := a3 h0
  rw [h.2.2.1] at a4
  have h2 := h.fx a2
  have hN : 1 ≤ n.toNatClampNeg := by rw [ti_nat]; omega
  rw [a4] at a1
  have e := v_Reck_meanBy h2.2.1 hV (cell := cell) (c := tkX L m 0 cell told) (n := n) (p := 14) (row := rowG m (fL m (fun c => tkX L m 0 c 0)) (n.toNatClampNeg - 1)) hc (tkX_club hV h0 L 0 cell told) hn (fun c hc' => by
    have := cellB_nat hc'
    rw [h2.2.2.2 _ (by omega), rJ_at m _ hc'])
  refine ⟨x2, ?_, a2⟩
  have hgo : f_Reck_meanTold x cell n told = (f_Reck_meanByClub_17 x2 cell (tkX L m 0 cell told) n 14 155).bind fun p => f_Reck_meanTold_13 x2 p := by
    unfold f_Reck_meanTold
    rw [a1]; rfl
  rw [hgo, e]; rfl
theorem half_neg {v : Int32} (h : 1 ≤ v.toInt ∧ v.toInt ≤ 5) : (-v) / 2 = -(v / 2) := by
  have : v = 1 ∨ v = 2 ∨ v = 3 ∨ v = 4 ∨ v = 5 := by
    rw [ti_eq, ti_eq, ti_eq, ti_eq, ti_eq]
    have z1 : (1 : Int32).toInt = 1 := rfl
    have z2 : (2 : Int32).toInt = 2 := rfl
    have z3 : (3 : Int32).toInt = 3 := rfl
    have z4 : (4 : Int32).toInt = 4 := rfl
    have z5 : (5 : Int32).toInt = 5 := rfl
    omega
  rcases this with h | h | h | h | h <;> rw [h] <;> decide
theorem l_bestLie {m : am_H} {L : Option ((Nat → Int32) → Int32)} (hV : VM m) (h0 : ¬ m.1 0 6 = 0) {cell n dv : Int32} (hc : cellB cell = true) (hn : 1 ≤ n.toInt ∧ n.toInt ≤ 4) (hd : dv = 1 ∨ dv = 2) : ∀ (k fu : Nat) (x : am_H) (b : Int32) (w : Int64) (v : Int32), IC x m L n.toNatClampNeg → k < fu → 1 ≤ v.toInt → v.toInt + k = 6 →
    ∃ x2, f_Reck_bestLie_15_l fu x cell n dv b w v = some ((lieF (toldS L m n.toNatClampNeg cell) (fun y => if dv = 2 then y / 2 else y) k v (b, w)).1, x2) ∧ sx [10, 11] x x2 := by
  have z5 : (5 : Int32).toInt = 5 := rfl
  intro k
  induction k with
  | zero =>
    intro fu x b w v hI hf h1 h2
    obtain ⟨g, rfl⟩ : ∃ g, fu = g + 1 := ⟨fu - 1, by omega⟩
    refine ⟨x, ?_, sx.rf _ _⟩
    show f_Reck_bestLie_15 _ x cell n dv b w v = _
    unfold f_Reck_bestLie_15
    rw [if_pos (by rw [ti_lt]; omega)]; rfl
  | succ k ih =>
    intro fu x b w v hI hf h1 h2
    obtain ⟨g, rfl⟩ : ∃ g, fu = g + 1 := ⟨fu - 1, by omega⟩
    have e1 : (v + 1).toInt = v.toInt + 1 := by
      have z1 : (1 : Int32).toInt = 1 := rfl
      rw [ti_add, z1]; omega
    obtain ⟨cn, hcn⟩ : ∃ cn, cn = if dv = 2 then v / 2 else v := ⟨_, rfl⟩
    have hq1 : (if dv = 2 then (-v) / 2 else -v) = -cn := by
      rw [hcn]
      rcases hd with h | h
      · rw [h, if_neg (by decide), if_neg (by decide)]
      · rw [h, if_pos rfl, if_pos rfl]; exact half_neg (by omega)
    have hgo : f_Reck_bestLie_15_l (g + 1) x cell n dv b w v = f_Reck_bestLie_35 (f_Reck_bestLie_15_l g) x cell n dv b w v cn := by
      show f_Reck_bestLie_15 _ x cell n dv b w v = _
      unfold f_Reck_bestLie_15
      rw [if_neg (by rw [ti_lt]; omega)]
      unfold f_Reck_bestLie_21
      rw [hcn]
      rcases hd with h | h
      · rw [h, if_neg (by decide), if_neg (by decide)]; rfl
      · rw [h, if_pos rfl, if_pos rfl]; rfl
    rw [hgo]
    obtain ⟨x1, a1, a2⟩ := v_meanTold hV h0 hc hn hI (-cn)
    have hI1 := hI.fx a2
    obtain ⟨x3, b1, b2⟩ := v_meanTold hV h0 hc hn hI1 cn
    have hI3 := hI1.fx b2
    unfold f_Reck_bestLie_35
    rw [a1, Option.bind_some]
    have fin : ∀ b' w', ∃ x2, f_Reck_bestLie_65 (f_Reck_bestLie_15_l g) x1 cell n dv b' w' v cn = some ((lieF (toldS L m n.toNatClampNeg cell) (fun y => if dv = 2 then y / 2 else y) k (v + 1) (stL (toldS L m n.toNatClampNeg cell) (fun y => if dv = 2 then y / 2 else y) v (b', w'))).1, x2) ∧ sx [10, 11] x x2 := by
      intro b' w'
      unfold f_Reck_bestLie_65
      rw [b1, Option.bind_some]
      unfold f_Reck_bestLie_73 stL
      simp only []
      rw [← hcn]
      by_cases q : toldS L m n.toNatClampNeg cell cn < w'
      · rw [if_pos q, if_neg (fun z => le64_iff.mp z q)]
        obtain ⟨x2, i1, i2⟩ := ih g x3 v (toldS L m n.toNatClampNeg cell cn) (v + 1) hI3 (by omega) (by omega) (by omega)
        exact ⟨x2, i1, (a2.tr b2).tr i2⟩
      · rw [if_neg q, if_pos (le64_iff.mpr q)]
        obtain ⟨x2, i1, i2⟩ := ih g x3 b' w' (v + 1) hI3 (by omega) (by omega) (by omega)
        exact ⟨x2, i1, (a2.tr b2).tr i2⟩
    simp only [lieF]
    unfold f_Reck_bestLie_46
    have hst : stL (toldS L m n.toNatClampNeg cell) (fun y => if dv = 2 then y / 2 else y) (-v) (b, w) = if toldS L m n.toNatClampNeg cell (-cn) < w then (-v, toldS L m n.toNatClampNeg cell (-cn)) else (b, w) := by
      unfold stL
      simp only []
      rw [hq1]
    rw [hst]
    by_cases q : toldS L m n.toNatClampNeg cell (-cn) < w
    · rw [if_pos q, if_neg (fun z => le64_iff.mp z q)]
      exact fin (-v) _
    · rw [if_neg q, if_pos (le64_iff.mpr q)]
      exact fin b w
theorem v_bestLie {x m : am_H} {L : Option ((Nat → Int32) → Int32)} (hV : VM m) (h0 : ¬ m.1 0 6 = 0) {cell n dv : Int32} (hc : cellB cell = true) (hn : 1 ≤ n.toInt ∧ n.toInt ≤ 4) (hd : dv = 1 ∨ dv = 2) (hI : IC x m L n.toNatClampNeg) :
    ∃ x2, f_Reck_bestLie x cell n dv = some ((lieF (toldS L m n.toNatClampNeg cell) (fun y => if dv = 2 then y / 2 else y) 5 1 (0, toldS L m n.toNatClampNeg cell 0)).1, x2) ∧ sx [10, 11] x x2 := by
  obtain ⟨x1, a1, a2⟩ := v_meanTold hV h0 hc hn hI 0
  obtain ⟨x2, b1, b2⟩ := l_bestLie hV h0 hc hn hd 5 am_fu x1 0 (toldS L m n.toNatClampNeg cell 0) 1 (hI.fx a2) (by unfold am_fu; omega) (by decide) (by decide)
  refine ⟨x2, ?_, a2.tr b2⟩
  unfold f_Reck_bestLie
  rw [a1, Option.bind_some]
  unfold f_Reck_bestLie_10
  exact b1
