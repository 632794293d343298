/-! which club is taken, so much more being told -/
def tkG (f : Int32 → Int32) (c : Int32) (a : Int32 × Int32) : Int32 × Int32 := if a.2 < f c then (c, f c) else a
def tkF (f : Int32 → Int32) (k : Nat) : Int32 := (cfold (tkG f) (k - 1) 1 ((0 : Int32), f 0)).1
/-- by the law, with what is believed (und 0), or without -/
def tkX (L : Option ((Nat → Int32) → Int32)) (m : am_H) (und cell told : Int32) : Int32 := tkF (fun c => rkS L m cell c told (blS m und c)) (m.1 0 6).toInt.toNat
theorem cfold_ext {α : Type} {f g : Int32 → α → α} {lim : Int} (hl : lim ≤ 1000) (h : ∀ c a, 0 ≤ c.toInt → c.toInt < lim → f c a = g c a) : ∀ (k : Nat) (c : Int32) (a : α), 0 ≤ c.toInt → c.toInt + k ≤ lim → cfold f k c a = cfold g k c a := by
  intro k
  induction k with
  | zero => intro c a _ _; rfl
  | succ k ih =>
    intro c a h0 h1
    have e : (c + 1).toInt = c.toInt + 1 := by
      have z1 : (1 : Int32).toInt = 1 := rfl
      rw [ti_add, z1]; omega
    simp only [cfold]
    rw [h c a h0 (by omega), ih (c + 1) _ (by omega) (by omega)]
theorem tkF_club {m : am_H} (hV : VM m) (h0 : ¬ m.1 0 6 = 0) (f : Int32 → Int32) : clubB m (tkF f (m.1 0 6).toInt.toNat) = true := by
  have hcs := hV.2
  have z0 : (0 : Int32).toInt = 0 := rfl
  have z1 : (1 : Int32).toInt = 1 := rfl
  have hpos : 1 ≤ (m.1 0 6).toInt := by
    have : ¬ (m.1 0 6).toInt = (0 : Int32).toInt := fun q => h0 ((ti_eq _ _).mpr q)
    omega
  refine cfold_pres (fun a : Int32 × Int32 => clubB m a.1 = true) _ (m.1 0 6).toInt _ 1 _ ?_ (by decide) (by omega) (by omega) ?_
  · intro c a h1 h2 h3
    unfold tkG
    split
    · exact clubB_iff.mpr ⟨h1, h2⟩
    · exact h3
  · have : clubB m 0 = true := clubB_iff.mpr (by omega)
    exact this
theorem le_not_lt {a b : Int32} : b ≤ a ↔ ¬ a < b := by rw [ti_le, ti_lt]; omega
theorem l_clubTold {m : am_H} {L : Option ((Nat → Int32) → Int32)} (hV : VM m) {cell : Int32} (hc : cellB cell = true) (told und : Int32) : ∀ (k fu : Nat) (x : am_H) (b v c : Int32), RTL x m L → RH x m → x.1 12 11 = und → k < fu → 0 ≤ c.toInt → c.toInt < 1000 → k = ((m.1 0 6).toInt - c.toInt).toNat →
    ∃ x2, f_Reck_clubTold_14_l fu x cell told b v c = some ((cfold (tkG (fun c => rkS L m cell c told (blS m und c))) k c (b, v)).1, x2) ∧ sx [10, 11] x x2 := by
  have hcs := hV.2
  intro k
  induction k with
  | zero =>
    intro fu x b v c hL hR hu hf h0 h1 hk
    obtain ⟨g, rfl⟩ : ∃ g, fu = g + 1 := ⟨fu - 1, by omega⟩
    refine ⟨x, ?_, sx.rf _ _⟩
    show f_Reck_clubTold_14 _ x cell told b v c = _
    unfold f_Reck_clubTold_14 f_Reck_clubTold_23 f_Hole_clubsHeld
    rw [hR.2, if_pos (by rw [ti_le]; omega)]; rfl
  | succ k ih =>
    intro fu x b v c hL hR hu hf h0 h1 hk
    obtain ⟨g, rfl⟩ : ∃ g, fu = g + 1 := ⟨fu - 1, by omega⟩
    have e1 : (c + 1).toInt = c.toInt + 1 := by
      have z1 : (1 : Int32).toInt = 1 := rfl
      rw [ti_add, z1]; omega
    have hcl : clubB m c = true := clubB_iff.mpr (by omega)
    obtain ⟨r, x1, a1, a2, a3⟩ := v_Reck_rankOf hL hR hV hc c told
    have a4 := a3 hcl
    rw [hu] at a4
    have hgo : f_Reck_clubTold_14_l (g + 1) x cell told b v c = f_Reck_clubTold_34 (f_Reck_clubTold_14_l g) x1 cell told b v c r := by
      show f_Reck_clubTold_14 _ x cell told b v c = _
      unfold f_Reck_clubTold_14 f_Reck_clubTold_23 f_Hole_clubsHeld
      rw [hR.2, if_neg (by rw [ti_le]; omega)]
      unfold f_Reck_clubTold_26
      rw [a1, Option.bind_some]
    rw [hgo]
    have key : ∀ b' v', ∃ x2, f_Reck_clubTold_14_l g x1 cell told b' v' (c + 1) = some ((cfold (tkG (fun c => rkS L m cell c told (blS m und c))) k (c + 1) (b', v')).1, x2) ∧ sx [10, 11] x x2 := by
      intro b' v'
      obtain ⟨x2, i1, i2⟩ := ih g x1 b' v' (c + 1) (hL.fx a2 (by decide)) (hR.fx a2 (by decide)) (by rw [(a2 12 (by decide)).1]; exact hu) (by omega) (by omega) (by omega) (by omega)
      exact ⟨x2, i1, a2.tr i2⟩
    unfold f_Reck_clubTold_34
    simp only [cfold, tkG, ← a4]
    by_cases q : v < r
    · rw [if_pos q, if_neg (fun z => le_not_lt.mp z q)]
      exact key c r
    · rw [if_neg q, if_pos (le_not_lt.mpr q)]
      exact key b v
theorem v_clubTold {x m : am_H} {L : Option ((Nat → Int32) → Int32)} (hL : RTL x m L) (hR : RH x m) (hV : VM m) {cell : Int32} (hc : cellB cell = true) (told : Int32) : ∃ r x2, f_Reck_clubTold x cell told = some (r, x2) ∧ sx [10, 11] x x2 ∧ (¬ m.1 0 6 = 0 → r = tkX L m (x.1 12 11) cell told) := by
  have hcs := hV.2
  have z0 : (0 : Int32).toInt = 0 := rfl
  have z1 : (1 : Int32).toInt = 1 := rfl
  obtain ⟨r, x1, a1, a2, a3⟩ := v_Reck_rankOf hL hR hV hc 0 told
  obtain ⟨x2, i1, i2⟩ := l_clubTold (L := L) hV hc told (x.1 12 11) ((m.1 0 6).toInt - 1).toNat am_fu x1 0 r 1 (hL.fx a2 (by decide)) (hR.fx a2 (by decide)) (by rw [(a2 12 (by decide)).1]) (by unfold am_fu; omega) (by decide) (by decide) (by rw [z1])
  refine ⟨(cfold (tkG (fun c => rkS L m cell c told (blS m (x.1 12 11) c))) ((m.1 0 6).toInt - 1).toNat 1 (0, r)).1, x2, ?_, a2.tr i2, fun h0 => ?_⟩
  · unfold f_Reck_clubTold
    rw [a1, Option.bind_some]
    unfold f_Reck_clubTold_9
    exact i1
  · have hpos : 1 ≤ (m.1 0 6).toInt := by
      have : ¬ (m.1 0 6).toInt = (0 : Int32).toInt := fun q => h0 ((ti_eq _ _).mpr q)
      omega
    have hcl : clubB m 0 = true := clubB_iff.mpr (by omega)
    unfold tkX tkF
    rw [a3 hcl, show ((m.1 0 6).toInt - 1).toNat = (m.1 0 6).toInt.toNat - 1 by omega]
theorem l_taken {x0 : am_H} {m0 : am_H} {L : Option ((Nat → Int32) → Int32)} {cell : Int32} (hc : cellB cell = true) (told : Int32) : ∀ (k fu : Nat) (m : am_H) (b v c : Int32), RTL x0 m L → VM m → m.1 1 = m0.1 1 → k < fu → 0 ≤ c.toInt → 0 ≤ b.toInt → c.toInt + k = (m.1 0 6).toInt →
    ∃ m2, f_Model_takenFrom_8_l fu m cell told b v c = some ((cfold (tkG (fun c => rkS L m0 cell c told (beS m0 c))) k c (b, v)).1, m2) ∧ sm [11, 12, 13, 14, 15] [7] m m2 := by
  have z0 : (0 : Int32).toInt = 0 := rfl
  intro k
  induction k with
  | zero =>
    intro fu m b v c hL hV e hf h0 hb hk
    obtain ⟨g, rfl⟩ : ∃ g, fu = g + 1 := ⟨fu - 1, by omega⟩
    refine ⟨m, ?_, sm.rf _ _ _⟩
    show f_Model_takenFrom_8 _ m cell told b v c = _
    unfold f_Model_takenFrom_8
    rw [if_pos (by rw [ti_le]; omega)]; rfl
  | succ k ih =>
    intro fu m b v c hL hV e hf h0 hb hk
    obtain ⟨g, rfl⟩ : ∃ g, fu = g + 1 := ⟨fu - 1, by omega⟩
    have hcs := hV.2
    have e1 : (c + 1).toInt = c.toInt + 1 := by
      have z1 : (1 : Int32).toInt = 1 := rfl
      rw [ti_add, z1]; omega
    have hcl : clubB m c = true := clubB_iff.mpr (by omega)
    obtain ⟨m1, a1, a2⟩ := v_Model_rankOf hL hV hc hcl told
    have a4 : rkS L m cell c told (beS m c) = rkS L m0 cell c told (beS m0 c) := by
      rw [rk_C e]; unfold beS; rw [e]
    rw [a4] at a1
    generalize hr : rkS L m0 cell c told (beS m0 c) = r at *
    have hgo : f_Model_takenFrom_8_l (g + 1) m cell told b v c = f_Model_takenFrom_31 (f_Model_takenFrom_8_l g) m1 cell told b v c r := by
      show f_Model_takenFrom_8 _ m cell told b v c = _
      unfold f_Model_takenFrom_8
      rw [if_neg (by rw [ti_le]; omega)]
      unfold f_Model_takenFrom_17
      rw [a1, Option.bind_some]
      unfold f_Model_takenFrom_25
      rw [if_neg (by rw [ti_lt]; omega)]
    rw [hgo]
    have e6 : m1.1 0 6 = m.1 0 6 := a2.1 6 (by simp)
    have key : ∀ b' v', 0 ≤ b'.toInt → ∃ m2, f_Model_takenFrom_8_l g m1 cell told b' v' (c + 1) = some ((cfold (tkG (fun c => rkS L m0 cell c told (beS m0 c))) k (c + 1) (b', v')).1, m2) ∧ sm [11, 12, 13, 14, 15] [7] m m2 := by
      intro b' v' hb'
      obtain ⟨m2, i1, i2⟩ := ih g m1 b' v' (c + 1) (hL.fm a2 (by simp) (by simp)) (hV.fr a2 (by simp) (by simp)) ((a2.2.2 1 (by decide) (by simp)).1.trans e) (by omega) (by omega) hb' (by rw [e6]; omega)
      exact ⟨m2, i1, a2.tr i2⟩
    unfold f_Model_takenFrom_31
    simp only [cfold, tkG, hr]
    by_cases q : v < r
    · rw [if_pos q, if_neg (fun z => le_not_lt.mp z q)]
      exact key c r h0
    · rw [if_neg q, if_pos (le_not_lt.mpr q)]
      exact key b v hb
theorem v_takenFrom {x m : am_H} {L : Option ((Nat → Int32) → Int32)} (hL : RTL x m L) (hV : VM m) {cell : Int32} (hc : cellB cell = true) (told : Int32) (h0 : ¬ m.1 0 6 = 0) : ∃ m2, f_Model_takenFrom m cell told = some (tkX L m 0 cell told, m2) ∧ sm [11, 12, 13, 14, 15] [7] m m2 := by
  have hcs := hV.2
  have z0 : (0 : Int32).toInt = 0 := rfl
  have z1 : (1 : Int32).toInt = 1 := rfl
  have hpos : 1 ≤ (m.1 0 6).toInt := by
    have : ¬ (m.1 0 6).toInt = (0 : Int32).toInt := fun q => h0 ((ti_eq _ _).mpr q)
    omega
  have hcl : clubB m 0 = true := clubB_iff.mpr (by omega)
  obtain ⟨m1, a1, a2⟩ := v_Model_rankOf hL hV hc hcl told
  have e := (a2.2.2 1 (by decide) (by simp)).1
  have e6 : m1.1 0 6 = m.1 0 6 := a2.1 6 (by simp)
  obtain ⟨m2, i1, i2⟩ := l_taken (m0 := m) hc told ((m.1 0 6).toInt.toNat - 1) 4999 m1 0 (rkS L m cell 0 told (beS m 0)) 1 (hL.fm a2 (by simp) (by simp)) (hV.fr a2 (by simp) (by simp)) e (by omega) (by decide) (by decide) (by rw [e6]; omega)
  refine ⟨m2, ?_, a2.tr i2⟩
  have hfu : am_fu = 4999 + 1 := rfl
  unfold f_Model_takenFrom
  rw [hfu]
  show f_Model_takenFrom_8 (f_Model_takenFrom_8_l 4999) m cell told (-1) 0 0 = _
  unfold f_Model_takenFrom_8
  rw [if_neg (by rw [ti_le]; omega)]
  unfold f_Model_takenFrom_17
  rw [a1, Option.bind_some]
  unfold f_Model_takenFrom_25
  rw [if_pos (by decide)]
  unfold f_Model_takenFrom_38 f_Model_takenFrom_45
  rw [show (0 : Int32) + 1 = 1 from by decide, i1]
  rfl
theorem E_believed {x m : am_H} {L : Option ((Nat → Int32) → Int32)} (hL : RTL x m L) (hR : RH x m) (hV : VM m) (hu : x.1 12 11 = 0) (cell : Int32) : ∃ r x2 m2, f_Club_believed x cell = some (r, x2) ∧ f_Model_believed m cell = some (r, m2) ∧ sx [10, 11] x x2 ∧ sm [11, 12, 13, 14, 15] [7] m m2 := by
  unfold f_Club_believed f_Model_believed
  rw [v_Hole_isCell, v_Model_isCell32]
  cases hc : cellB cell with
  | false => exact ⟨-1, x, m, rfl, rfl, sx.rf _ _, sm.rf _ _ _⟩
  | true =>
    unfold f_Club_believed_4 f_Model_believed_5
    rw [if_pos rfl, if_pos rfl]
    unfold f_Club_believed_9 f_Model_believed_10 f_Model_believed_17
    rw [v_Hole_isGreen hR, v_Model_isGreen m hc, hc, Bool.true_and, Option.bind_some, Option.bind_some]
    unfold f_Club_believed_17 f_Model_believed_22
    by_cases h0 : m.1 0 6 = 0
    · rw [if_pos h0]
      refine ⟨-2, x, m, ?_, rfl, sx.rf _ _, sm.rf _ _ _⟩
      cases hg : grB m cell with
      | true => rfl
      | false =>
        rw [if_neg Bool.false_ne_true]
        unfold f_Club_believed_20
        have : f_Hole_hasNoClubs x = true := by simp only [f_Hole_hasNoClubs_11, f_Hole_hasNoClubs_7, f_Hole_hasNoClubs, hR.2, h0, if_true]
        rw [this]; rfl
    · rw [if_neg h0]
      cases hg : grB m cell with
      | true => exact ⟨-2, x, m, rfl, rfl, sx.rf _ _, sm.rf _ _ _⟩
      | false =>
        rw [if_neg Bool.false_ne_true, if_neg Bool.false_ne_true]
        have hn : f_Hole_hasNoClubs x = false := by simp only [f_Hole_hasNoClubs_11, f_Hole_hasNoClubs_7, f_Hole_hasNoClubs, hR.2, h0, if_false]
        unfold f_Club_believed_20 f_Club_believed_27
        rw [hn, if_neg Bool.false_ne_true]
        obtain ⟨r, x2, a1, a2, a3⟩ := v_clubTold hL hR hV hc 0
        obtain ⟨m2, b1, b2⟩ := v_takenFrom hL hV hc 0 h0
        have a4 := a3 h0
        rw [hu] at a4
        unfold f_Club_believed_35 f_Model_believed_30
        rw [a1, b1, ← a4]
        exact ⟨r, x2, m2, rfl, rfl, a2, b2⟩
