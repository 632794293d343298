/-! LIES: the model's loop, and both -/
def IM (m y : am_H) (L : Option ((Nat → Int32) → Int32)) : Prop := sm [11, 12, 13, 14, 15] [7, 8, 9, 10] m y ∧ (∀ i, i < 5 → y.2 10 i = Un i) ∧ ∀ j, j < 155 → y.2 8 j = rJ m (fL m (fun c => tkX L m 0 c 0)) j
theorem ev_M {x m y : am_H} {L : Option ((Nat → Int32) → Int32)} (hL : RTL x m L) (hV : VM m) (h0 : ¬ m.1 0 6 = 0) {cell n : Int32} (hc : cellB cell = true) (hn : 1 ≤ n.toInt ∧ n.toInt ≤ 4) (h : IM m y L) (told : Int32) : ∃ y2, f_Model_takenFrom y cell told = some (tkX L m 0 cell told, y2) ∧ IM m y2 L ∧ f_Model_byClub y2 cell n (tkX L m 0 cell told) = some (toldS L m n.toNatClampNeg cell told) := by
  obtain ⟨h1, h2, h3⟩ := h
  have e1 := (h1.2.2 1 (by decide) (by simp)).1
  have e6 : y.1 0 6 = m.1 0 6 := h1.1 6 (by simp)
  obtain ⟨y2, a1, a2⟩ := v_takenFrom (hL.fm h1 (by simp) (by simp)) (hV.fr h1 (by simp) (by simp)) hc told (by rw [e6]; exact h0)
  rw [tkX_C e1 e6] at a1
  have s2 : sm [11, 12, 13, 14, 15] [7, 8, 9, 10] m y2 := h1.tr (a2.mono (by simp) (by simp))
  have f1 := (s2.2.2 1 (by decide) (by simp)).1
  have f6 : y2.1 0 6 = m.1 0 6 := s2.1 6 (by simp)
  have f8 := (a2.2.2 8 (by decide) (by simp)).2
  have f10 := (a2.2.2 10 (by decide) (by simp)).2
  refine ⟨y2, a1, ⟨s2, fun i hi => by rw [f10]; exact h2 i hi, fun j hj => by rw [f8]; exact h3 j hj⟩, ?_⟩
  have hN : 1 ≤ n.toNatClampNeg ∧ n.toNatClampNeg ≤ 4 := by rw [ti_nat]; omega
  have e := v_Model_byClub (hV.fr s2 (by simp) (by simp)) (n := n) (c := tkX L m 0 cell told) (row := rowG m (fL m (fun c => tkX L m 0 c 0)) (n.toNatClampNeg - 1)) hc (by rw [clubB_c f6]; exact tkX_club hV h0 L 0 cell told) hn (fun c hc' => by
    have := cellB_nat hc'
    rw [f8, h3 _ (by omega), rJ_at m _ hc']) (by rw [f10]; exact h2 _ (by omega))
  rw [byC_c f1] at e
  exact e
/-- what the model knows once the lie is known to be one -/
def hfq (y : Int32) : Int32 := y / 2
theorem lie_sign {x m : am_H} {L : Option ((Nat → Int32) → Int32)} (hL : RTL x m L) (hV : VM m) (h0 : ¬ m.1 0 6 = 0) {cell n : Int32} (hc : cellB cell = true) (hn : 1 ≤ n.toInt ∧ n.toInt ≤ 4) (k84 : am_H → Int32 → Int32 → Int32 → Int64 → Int64 → Int64 → Int32 → Int32 → Option (Int64 × am_H)) (g : Nat) {y : am_H} (h : IM m y L) (part : Int32) (pl : Int64) (a b : Int32 × Int64) {v s z : Int32} (hs : ¬ 2 ≤ s) (hz : s * v = z) :
    ∃ y2, f_Model_lie_93_l k84 (g + 1) y cell n part pl a.2 b.2 a.1 v s = f_Model_lie_93_l k84 g y2 cell n part pl (stL (toldS L m n.toNatClampNeg cell) (fun q => q) z a).2 (stL (toldS L m n.toNatClampNeg cell) hfq z b).2 (stL (toldS L m n.toNatClampNeg cell) (fun q => q) z a).1 v (s + 2) ∧ IM m y2 L := by
  obtain ⟨y1, a1, a2, a3⟩ := ev_M hL hV h0 hc hn h z
  obtain ⟨y2, b1, b2, b3⟩ := ev_M hL hV h0 hc hn a2 (hfq z)
  refine ⟨y2, ?_, b2⟩
  have h152 : ∀ (bw : Int32) (w : Int64), f_Model_lie_152 k84 (f_Model_lie_93_l k84 g) y1 cell n part pl b.2 bw v s w = f_Model_lie_93_l k84 g y2 cell n part pl w (stL (toldS L m n.toNatClampNeg cell) hfq z b).2 bw v (s + 2) := by
    intro bw w
    unfold f_Model_lie_152
    have e : s * v / 2 = hfq z := by rw [hz]; rfl
    rw [e, b1, Option.bind_some]
    unfold f_Model_lie_169
    rw [b3, Option.bind_some]
    unfold f_Model_lie_172 stL
    by_cases q : toldS L m n.toNatClampNeg cell (hfq z) < b.2
    · rw [if_pos q, if_neg (fun u => le64_iff.mp u q)]; rfl
    · rw [if_neg q, if_pos (le64_iff.mpr q)]; rfl
  show f_Model_lie_93 k84 _ y cell n part pl a.2 b.2 a.1 v s = _
  unfold f_Model_lie_93
  rw [if_neg hs]
  unfold f_Model_lie_99
  rw [hz, a1, Option.bind_some]
  unfold f_Model_lie_112
  rw [a3, Option.bind_some]
  unfold f_Model_lie_115
  have hst : stL (toldS L m n.toNatClampNeg cell) (fun q => q) z a = if toldS L m n.toNatClampNeg cell z < a.2 then (z, toldS L m n.toNatClampNeg cell z) else a := rfl
  by_cases q : toldS L m n.toNatClampNeg cell z < a.2
  · rw [hst, if_pos q, if_neg (fun u => le64_iff.mp u q)]
    unfold f_Model_lie_125 f_Model_lie_135
    rw [if_neg (fun u => le64_iff.mp u q)]
    unfold f_Model_lie_145
    rw [h152, hz]
  · rw [hst, if_neg q, if_pos (le64_iff.mpr q)]
    unfold f_Model_lie_133 f_Model_lie_135
    rw [if_pos (le64_iff.mpr q)]
    unfold f_Model_lie_150
    rw [h152]
theorem m1_mul {v : Int32} (h : 1 ≤ v.toInt ∧ v.toInt ≤ 5) : -1 * v = -v := by
  have : v = 1 ∨ v = 2 ∨ v = 3 ∨ v = 4 ∨ v = 5 := by
    rw [ti_eq, ti_eq, ti_eq, ti_eq, ti_eq]
    have z1 : (1 : Int32).toInt = 1 := rfl
    have z2 : (2 : Int32).toInt = 2 := rfl
    have z3 : (3 : Int32).toInt = 3 := rfl
    have z4 : (4 : Int32).toInt = 4 := rfl
    have z5 : (5 : Int32).toInt = 5 := rfl
    omega
  rcases this with h | h | h | h | h <;> rw [h] <;> decide
theorem l_mlie {x m : am_H} {L : Option ((Nat → Int32) → Int32)} (hL : RTL x m L) (hV : VM m) (h0 : ¬ m.1 0 6 = 0) {cell n : Int32} (hc : cellB cell = true) (hn : 1 ≤ n.toInt ∧ n.toInt ≤ 4) (part : Int32) (pl : Int64) : ∀ (k fu : Nat) (y : am_H) (a b : Int32 × Int64) (v : Int32), IM m y L → k < fu → 1 ≤ v.toInt → v.toInt + k = 6 →
    ∃ y2, f_Model_lie_84_l fu y cell n part pl a.2 b.2 a.1 v = f_Model_lie_203 y2 n part pl (lieF (toldS L m n.toNatClampNeg cell) (fun q => q) k v a).2 (lieF (toldS L m n.toNatClampNeg cell) hfq k v b).2 (lieF (toldS L m n.toNatClampNeg cell) (fun q => q) k v a).1 ∧ IM m y2 L := by
  have z5 : (5 : Int32).toInt = 5 := rfl
  intro k
  induction k with
  | zero =>
    intro fu y a b v hI hf h1 h2
    obtain ⟨g, rfl⟩ : ∃ g, fu = g + 1 := ⟨fu - 1, by omega⟩
    refine ⟨y, ?_, hI⟩
    show f_Model_lie_84 _ y cell n part pl a.2 b.2 a.1 v = _
    unfold f_Model_lie_84
    rw [if_pos (by rw [ti_lt]; omega)]; rfl
  | succ k ih =>
    intro fu y a b v hI hf h1 h2
    obtain ⟨g, rfl⟩ : ∃ g, fu = g + 1 := ⟨fu - 1, by omega⟩
    have e1 : (v + 1).toInt = v.toInt + 1 := by
      have z1 : (1 : Int32).toInt = 1 := rfl
      rw [ti_add, z1]; omega
    obtain ⟨y1, a1, a2⟩ := lie_sign hL hV h0 hc hn (f_Model_lie_84_l g) 4999 hI part pl a b (v := v) (s := -1) (z := -v) (by decide) (m1_mul (by omega))
    obtain ⟨y2, b1, b2⟩ := lie_sign hL hV h0 hc hn (f_Model_lie_84_l g) 4998 a2 part pl (stL (toldS L m n.toNatClampNeg cell) (fun q => q) (-v) a) (stL (toldS L m n.toNatClampNeg cell) hfq (-v) b) (v := v) (s := 1) (z := v) (by decide) (Int32.one_mul v)
    obtain ⟨y3, i1, i2⟩ := ih g y2 (stL (toldS L m n.toNatClampNeg cell) (fun q => q) v (stL (toldS L m n.toNatClampNeg cell) (fun q => q) (-v) a)) (stL (toldS L m n.toNatClampNeg cell) hfq v (stL (toldS L m n.toNatClampNeg cell) hfq (-v) b)) (v + 1) b2 (by omega) (by omega) (by omega)
    refine ⟨y3, ?_, i2⟩
    show f_Model_lie_84 _ y cell n part pl a.2 b.2 a.1 v = _
    unfold f_Model_lie_84
    rw [if_neg (by rw [ti_lt]; omega)]
    unfold f_Model_lie_90
    rw [show am_fu = 4999 + 1 from rfl, a1, show (-1 : Int32) + 2 = 1 from by decide, show 4999 = 4998 + 1 from rfl, b1, show (1 : Int32) + 2 = 3 from by decide]
    show f_Model_lie_93 _ (f_Model_lie_93_l (f_Model_lie_84_l g) 4997) y2 cell n part pl _ _ _ v 3 = _
    unfold f_Model_lie_93
    rw [if_pos (by decide)]
    exact i1
theorem toldS_b {m : am_H} {L : Option ((Nat → Int32) → Int32)} (hV : VM m) (h0 : ¬ m.1 0 6 = 0) {cell : Int32} (hc : cellB cell = true) {N : Nat} (hN : 1 ≤ N ∧ N ≤ 4) (told : Int32) : 0 < (toldS L m N cell told).toInt ∧ (toldS L m N cell told).toInt ≤ 157529610000 := by
  have h := byC_b hV (row := rowG m (fL m (fun c => tkX L m 0 c 0)) (N - 1)) hc (tkX_club hV h0 L 0 cell told) hN (rowG_b hV (okF_L hV (fun h0 c _ => tkX_club hV h0 L 0 c 0)) (N - 1) (by omega))
  have h2 := uT_b hN.2
  exact ⟨h.1, Int.le_trans h.2 h2.2.2.2.1⟩
theorem lie_badC {x m : am_H} (hR : RH x m) (cell n part : Int32) (h : ¬ (cellB cell = true ∧ (1 ≤ n.toInt ∧ n.toInt ≤ 4) ∧ (0 ≤ part.toInt ∧ part.toInt ≤ 6) ∧ ¬ m.1 0 6 = 0 ∧ grB m cell = false)) : f_Club_lie x cell n part = some (-9223372036854775808, x) := by
  have z1 : (1 : Int32).toInt = 1 := rfl
  have z4 : (4 : Int32).toInt = 4 := rfl
  have z0 : (0 : Int32).toInt = 0 := rfl
  have z6 : (6 : Int32).toInt = 6 := rfl
  have h24 : f_Club_lie_24 x cell n part = some (-9223372036854775808, x) := rfl
  unfold f_Club_lie
  by_cases b1 : n < 1
  · rw [if_pos b1, h24]
  · rw [if_neg b1]; rw [ti_lt] at b1
    unfold f_Club_lie_5
    by_cases b2 : 4 < n
    · rw [if_pos b2, h24]
    · rw [if_neg b2]; rw [ti_lt] at b2
      unfold f_Club_lie_10
      by_cases b3 : part < 0
      · rw [if_pos b3, h24]
      · rw [if_neg b3]; rw [ti_lt] at b3
        unfold f_Club_lie_14
        by_cases b4 : 6 < part
        · rw [if_pos b4, h24]
        · rw [if_neg b4]; rw [ti_lt] at b4
          have h25 : f_Club_lie_20 x cell n part = f_Club_lie_32 x cell n part := by
            unfold f_Club_lie_20 f_Club_lie_25; rw [if_neg (by decide)]
          rw [h25]
          unfold f_Club_lie_32
          rw [v_Hole_isOffGreen hR, Option.bind_some]
          unfold f_Club_lie_40
          cases hc : cellB cell with
          | false => rfl
          | true =>
            cases hg : grB m cell with
            | true => rfl
            | false =>
              have h0 : m.1 0 6 = 0 := Decidable.not_not.mp (fun q => h ⟨hc, by omega, by omega, q, hg⟩)
              rw [if_pos (show (true && !false) = true from rfl)]
              unfold f_Club_lie_43
              have hn : f_Hole_hasNoClubs x = true := by simp only [f_Hole_hasNoClubs_11, f_Hole_hasNoClubs_7, f_Hole_hasNoClubs, hR.2, h0, if_true]
              rw [hn]; rfl
theorem lie_badM {m : am_H} (cell n part : Int32) (h : ¬ (cellB cell = true ∧ (1 ≤ n.toInt ∧ n.toInt ≤ 4) ∧ (0 ≤ part.toInt ∧ part.toInt ≤ 6) ∧ ¬ m.1 0 6 = 0 ∧ grB m cell = false)) : f_Model_lie m cell n part = some (-9223372036854775808, m) := by
  have y0 : (0 : Int64).toInt = 0 := rfl
  have y1 : (1 : Int64).toInt = 1 := rfl
  have y4 : (4 : Int64).toInt = 4 := rfl
  have y6 : (6 : Int64).toInt = 6 := rfl
  unfold f_Model_lie f_Model_lie_5
  rw [v_Model_isCell32]
  cases hc : cellB cell with
  | false => rfl
  | true =>
    rw [if_pos rfl]
    unfold f_Model_lie_8 f_Model_lie_17
    rw [v_Model_within32, y1, y4]
    by_cases hn : 1 ≤ n.toInt ∧ n.toInt ≤ 4
    · rw [if_pos (decide_eq_true hn)]
      unfold f_Model_lie_20 f_Model_lie_29
      rw [v_Model_within32, y0, y6]
      by_cases hp : 0 ≤ part.toInt ∧ part.toInt ≤ 6
      · rw [if_pos (decide_eq_true hp)]
        unfold f_Model_lie_32
        by_cases h0 : m.1 0 6 = 0
        · rw [if_pos h0]; rfl
        · rw [if_neg h0]
          unfold f_Model_lie_39
          rw [v_Model_isGreen m hc, Option.bind_some]
          cases hg : grB m cell with
          | true => rfl
          | false => exact absurd ⟨hc, hn, hp, h0, hg⟩ h
      · rw [decide_eq_false hp]; rfl
    · rw [decide_eq_false hn]; rfl
theorem E_lie {x m : am_H} {L : Option ((Nat → Int32) → Int32)} (hL : RTL x m L) (hR : RH x m) (hV : VM m) (hu : x.1 12 11 = 0) (hK : KLw x m L) (cell n part : Int32) : RLw x m L (f_Club_lie x cell n part) (f_Model_lie m cell n part) := by
  by_cases good : cellB cell = true ∧ (1 ≤ n.toInt ∧ n.toInt ≤ 4) ∧ (0 ≤ part.toInt ∧ part.toInt ≤ 6) ∧ ¬ m.1 0 6 = 0 ∧ grB m cell = false
  · obtain ⟨hc, hn, hp, h0, hg⟩ := good
    have z1 : (1 : Int32).toInt = 1 := rfl
    have z4 : (4 : Int32).toInt = 4 := rfl
    have z0 : (0 : Int32).toInt = 0 := rfl
    have z6 : (6 : Int32).toInt = 6 := rfl
    have z2 : (2 : Int32).toInt = 2 := rfl
    have z5 : (5 : Int32).toInt = 5 := rfl
    have z3 : (3 : Int32).toInt = 3 := rfl
    have y0 : (0 : Int64).toInt = 0 := rfl
    have y1 : (1 : Int64).toInt = 1 := rfl
    have y4 : (4 : Int64).toInt = 4 := rfl
    have y6 : (6 : Int64).toInt = 6 := rfl
    have hN : 1 ≤ n.toNatClampNeg ∧ n.toNatClampNeg ≤ 4 := by rw [ti_nat]; omega
    -- the class
    obtain ⟨x1, a1, a2, a3, a4, a5, a6⟩ := v_meanByLaw hL hR hV (tk := fun c => tkX L m 0 c 0) (fun c => by rw [hu]) hK hc (n := n) (by omega)
    have hpl : rowG m (fL m (fun c => tkX L m 0 c 0)) n.toNatClampNeg cell = toldS L m n.toNatClampNeg cell 0 := by
      rw [rowG_n, if_neg (by rw [hg]; decide), if_neg (by rintro (z | z); · omega
                                                          · exact h0 z)]
      rfl
    rw [hpl] at a1
    have hI : IC x1 m L n.toNatClampNeg := ⟨hL.fx a2 (by decide), hR.fx a2 (by decide), by rw [a3 11 (by decide) (by decide)]; exact hu, a6⟩
    obtain ⟨x2, b1, b2⟩ := v_bestLie hV h0 hc hn (dv := 1) (Or.inl rfl) hI
    have hI2 := hI.fx b2
    have hfun1 : (fun y : Int32 => if (1 : Int32) = 2 then y / 2 else y) = fun q => q := by funext y; rw [if_neg (by decide)]
    have hfun2 : (fun y : Int32 => if (2 : Int32) = 2 then y / 2 else y) = hfq := by funext y; rw [if_pos rfl]; rfl
    rw [hfun1] at b1
    have hat1 := lieF_at (W := toldS L m n.toNatClampNeg cell) (q := fun q => q) 5 1 (0, toldS L m n.toNatClampNeg cell 0) (by dsimp only)
    have hat2 := lieF_at (W := toldS L m n.toNatClampNeg cell) (q := hfq) 5 1 (0, toldS L m n.toNatClampNeg cell 0) (by
      have h00 : hfq 0 = 0 := by decide
      dsimp only
      rw [h00])
    -- the model
    obtain ⟨m1, q1, q2, q3, q4⟩ := v_Model_fills1 hL hV
    have hM1 : IM m m1 L := ⟨q2, q3, fun j hj => (q4 j hj).1⟩
    obtain ⟨m2, d1, d2, d3⟩ := ev_M hL hV h0 hc hn hM1 0
    obtain ⟨m3, e1, e2⟩ := l_mlie hL hV h0 hc hn part (toldS L m n.toNatClampNeg cell 0) 5 am_fu m2 (0, toldS L m n.toNatClampNeg cell 0) (0, toldS L m n.toNatClampNeg cell 0) 1 d2 (by unfold am_fu; omega) (by decide) (by decide)
    have b1' := hat1
    obtain ⟨bst, hb⟩ : ∃ b, b = lieF (toldS L m n.toNatClampNeg cell) (fun q => q) 5 1 (0, toldS L m n.toNatClampNeg cell 0) := ⟨_, rfl⟩
    obtain ⟨kn, hk⟩ : ∃ b, b = lieF (toldS L m n.toNatClampNeg cell) hfq 5 1 (0, toldS L m n.toNatClampNeg cell 0) := ⟨_, rfl⟩
    rw [← hb] at b1 hat1 e1
    rw [← hk] at hat2 e1
    obtain ⟨x3, c1, c2⟩ := v_meanTold hV h0 hc hn hI2 bst.1
    have hat1' : bst.2 = toldS L m n.toNatClampNeg cell bst.1 := hat1
    rw [← hat1'] at c1
    have hI3 := hI2.fx c2
    have hsx3 : sx [10, 11, 12, 14, 16] x x3 := (a2.tr (b2.mono (by simp))).tr (c2.mono (by simp))
    have hfin : ∀ y, sx [10, 11] x3 y → KLw y m3 L ∧ sx [10, 11, 12, 14, 16] x y ∧ (∀ i, i ≠ 7 → i ≠ 8 → y.1 12 i = x.1 12 i) ∧ y.2 12 = x.2 12 ∧ sm [11, 12, 13, 14, 15] [7, 8, 9, 10] m m3 := by
      intro y hy
      have hyx := ((b2.tr c2).tr hy)
      have g12 := hyx 12 (by decide)
      refine ⟨KLw.fm ?_ (e2.1.2.2 1 (by decide) (by simp)).1 (e2.1.1 6 (by simp)), hsx3.tr (hy.mono (by simp)), fun i h1 h2 => by rw [g12.1, a3 i h1 h2], by rw [g12.2, a4], e2.1⟩
      unfold KLw KT
      rw [g12.1, (hyx 14 (by decide)).2, (hyx 16 (by decide)).1]
      exact a5
    -- bounds
    have hW := toldS_b (L := L) hV h0 hc hN
    have hu1 := Un_t hN.2
    have hu2 := uT_b hN.2
    have hw0 := hW 0
    have hw1 : 0 < bst.2.toInt ∧ bst.2.toInt ≤ 157529610000 := by rw [hat1']; exact hW _
    have hw2 : 0 < kn.2.toInt ∧ kn.2.toInt ≤ 157529610000 := by rw [hat2]; exact hW _
    -- the class's way to its end
    have hC : f_Club_lie x cell n part = f_Club_lie_97 x3 cell n part (Un n.toNatClampNeg) (toldS L m n.toNatClampNeg cell 0) bst.1 bst.2 := by
      unfold f_Club_lie
      rw [if_neg (by rw [ti_lt]; omega)]
      unfold f_Club_lie_5
      rw [if_neg (by rw [ti_lt]; omega)]
      unfold f_Club_lie_10
      rw [if_neg (by rw [ti_lt]; omega)]
      unfold f_Club_lie_14
      rw [if_neg (by rw [ti_lt]; omega)]
      unfold f_Club_lie_20 f_Club_lie_25
      rw [if_neg (by decide)]
      unfold f_Club_lie_32
      rw [v_Hole_isOffGreen hR, hc, hg, Option.bind_some]
      unfold f_Club_lie_40
      rw [if_pos (show (true && !false) = true from rfl)]
      unfold f_Club_lie_43 f_Club_lie_50
      have hnc : f_Hole_hasNoClubs x = false := by simp only [f_Hole_hasNoClubs_11, f_Hole_hasNoClubs_7, f_Hole_hasNoClubs, hR.2, h0, if_false]
      rw [hnc, if_neg Bool.false_ne_true]
      unfold f_Club_lie_57
      rw [v_Reck_unit (by omega), Option.bind_some]
      unfold f_Club_lie_61
      rw [a1, Option.bind_some]
      unfold f_Club_lie_72
      rw [b1, Option.bind_some]
      unfold f_Club_lie_84
      rw [c1, Option.bind_some]
    have hM : f_Model_lie m cell n part = f_Model_lie_203 m3 n part (toldS L m n.toNatClampNeg cell 0) bst.2 kn.2 bst.1 := by
      unfold f_Model_lie f_Model_lie_5
      rw [v_Model_isCell32, hc, if_pos rfl]
      unfold f_Model_lie_8 f_Model_lie_17
      rw [v_Model_within32, y1, y4, if_pos (decide_eq_true hn)]
      unfold f_Model_lie_20 f_Model_lie_29
      rw [v_Model_within32, y0, y6, if_pos (decide_eq_true hp)]
      unfold f_Model_lie_32
      rw [if_neg h0]
      unfold f_Model_lie_39
      rw [v_Model_isGreen m hc, hg, Option.bind_some]
      unfold f_Model_lie_44
      rw [if_neg Bool.false_ne_true]
      unfold f_Model_lie_51
      rw [q1, Option.bind_some]
      unfold f_Model_lie_56
      rw [d1, Option.bind_some]
      unfold f_Model_lie_65
      rw [d3, Option.bind_some]
      unfold f_Model_lie_68
      exact e1
    have hun : m3.2 10 n.toNatClampNeg = Un n.toNatClampNeg := e2.2.1 _ (by omega)
    have ok5 := ok_of (i := n) (n := 5) (by omega)
    rw [hC, hM]
    unfold f_Club_lie_97 f_Model_lie_203
    by_cases p2 : 2 ≤ part
    · rw [if_pos p2, if_pos p2]; rw [ti_le] at p2
      unfold f_Club_lie_113 f_Model_lie_221
      by_cases p3 : part = 2
      · rw [if_pos p3, if_pos p3]
        exact ⟨_, x3, m3, rfl, rfl, hfin x3 (sx.rf _ _)⟩
      · rw [if_neg p3, if_neg p3]; rw [ti_eq] at p3
        unfold f_Club_lie_122 f_Model_lie_232
        by_cases p5 : 5 ≤ part
        · rw [if_pos p5, if_pos p5]; rw [ti_le] at p5
          obtain ⟨x4, g1, g2⟩ := v_bestLie hV h0 hc hn (dv := 2) (Or.inr rfl) hI3
          rw [hfun2, ← hk] at g1
          obtain ⟨x5, k1, k2⟩ := v_meanTold hV h0 hc hn (hI3.fx g2) (kn.1 / 2)
          have hat2' : kn.2 = toldS L m n.toNatClampNeg cell (kn.1 / 2) := hat2
          rw [← hat2'] at k1
          have e5 := ti_sub part 5
          have hsub := tl_sub (toldS L m n.toNatClampNeg cell 0) kn.2
          obtain ⟨r, t1, t2⟩ := p_partOf (a := toldS L m n.toNatClampNeg cell 0 - kn.2) (b := Un n.toNatClampNeg) (part := part - 5) (by omega) (by omega) (by rw [ti_eq, ti_eq]; omega)
          refine ⟨r, x5, m3, ?_, ?_, hfin x5 (g2.tr k2)⟩
          · unfold f_Club_lie_141
            rw [g1, Option.bind_some]
            unfold f_Club_lie_151
            rw [k1, Option.bind_some]
            unfold f_Club_lie_168
            rw [t1]; rfl
          · unfold f_Model_lie_257
            rw [if_pos ok5, hun, t2]; rfl
        · rw [if_neg p5, if_neg p5]; rw [ti_le] at p5
          have e5 := ti_sub part 3
          have hsub := tl_sub (toldS L m n.toNatClampNeg cell 0) bst.2
          obtain ⟨r, t1, t2⟩ := p_partOf (a := toldS L m n.toNatClampNeg cell 0 - bst.2) (b := Un n.toNatClampNeg) (part := part - 3) (by omega) (by omega) (by rw [ti_eq, ti_eq]; omega)
          refine ⟨r, x3, m3, ?_, ?_, hfin x3 (sx.rf _ _)⟩
          · unfold f_Club_lie_127
            rw [t1]; rfl
          · unfold f_Model_lie_237
            rw [if_pos ok5, hun, t2]; rfl
    · rw [if_neg p2, if_neg p2]; rw [ti_le] at p2
      obtain ⟨r, t1, t2⟩ := p_partOf (a := bst.2) (b := Un n.toNatClampNeg) (part := part) (by omega) (by omega) (by rw [ti_eq, ti_eq]; omega)
      refine ⟨r, x3, m3, ?_, ?_, hfin x3 (sx.rf _ _)⟩
      · unfold f_Club_lie_104
        rw [t1]; rfl
      · unfold f_Model_lie_208
        rw [if_pos ok5, hun, t2]; rfl
  · rw [lie_badC hR cell n part good, lie_badM cell n part good]
    exact RLw.no hK _
