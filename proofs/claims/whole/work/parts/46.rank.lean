/-! what a text gives depends on the six names alone -/
def VCr (R : Nat → PR) : Prop := ∀ (a : Nat) (u v : Nat → Int32), (∀ i, i < 6 → u i = v i) → (R a).2.2.2 u = (R a).2.2.2 v
theorem vc_ch {nx : Nat → Int32} {lev : Int32} {R : Nat → PR} (h : VCr R) : ∀ (f a : Nat) (u v : Nat → Int32) (w : Int32), (∀ i, i < 6 → u i = v i) → (chnT nx lev R f a).2.2.2 u w = (chnT nx lev R f a).2.2.2 v w := by
  intro f
  induction f with
  | zero => intro a u v w _; rfl
  | succ f ih =>
    intro a u v w hu
    unfold chnT
    by_cases e : f_Law_operatorOf lev (nx a) = 0
    · rw [if_pos e]
    · rw [if_neg e]
      by_cases ok : (R (a + 1)).1 = true
      · rw [if_pos ok]
        by_cases l2 : lev = 2
        · rw [if_pos l2]; simp only []; rw [h _ u v hu]
        · rw [if_neg l2]; simp only []; rw [h _ u v hu, ih _ u v _ hu]
      · rw [if_neg ok]
theorem vc_up {nx : Nat → Int32} {lev : Int32} {R : Nat → PR} (h : VCr R) : VCr (upT nx lev R) := by
  intro a u v hu
  unfold upT
  by_cases ok : (R a).1 = true
  · rw [if_pos ok]; simp only []; rw [h a u v hu, vc_ch h _ _ u v _ hu]
  · rw [if_neg ok]
theorem vc_lv {nx : Nat → Int32} {R : Nat → PR} (h : VCr R) : ∀ j, VCr (lvT nx R j) := by
  intro j
  induction j with
  | zero => exact h
  | succ j ih => exact vc_up ih
theorem vc_at {nx : Nat → Int32} {els : PR} {a : Nat} {u v : Nat → Int32} (hu : ∀ i, i < 6 → u i = v i) (h : els.2.2.2 u = els.2.2.2 v) : (atT nx els a).2.2.2 u = (atT nx els a).2.2.2 v := by
  unfold atT
  by_cases d : f_Law_isDigit (nx a) = true
  · rw [if_pos d]
  · rw [if_neg d]
    by_cases e : 0 ≤ (f_Model_nameOf (nx a)).toInt
    · rw [if_pos e]
      have := name_b (nx a)
      exact hu _ (by rw [ti_nat]; omega)
    · rw [if_neg e]; exact h
theorem vc_op {nx : Nat → Int32} : ∀ k, VCr (opT nx k) := by
  intro k
  induction k with
  | zero => intro a u v hu; exact vc_at hu rfl
  | succ k ih =>
    intro a u v hu
    refine vc_at hu ?_
    by_cases c : nx a = 40
    · rw [if_pos c]
      have g := vc_lv (nx := nx) ih 5 (a + 1) u v hu
      generalize lvT nx (opT nx k) 5 (a + 1) = r at *
      by_cases ok : r.1 = true
      · rw [if_pos ok]
        by_cases q : nx r.2.1 = 41
        · rw [if_pos q]; exact g
        · rw [if_neg q]
      · rw [if_neg ok]
    · rw [if_neg c]
      by_cases c2 : nx a = 33 ∨ nx a = 45
      · rw [if_pos c2]
        have g := ih (a + 1) u v hu
        generalize opT nx k (a + 1) = r at *
        by_cases ok : r.1 = true
        · rw [if_pos ok]; simp only []; rw [g]
        · rw [if_neg ok]
      · rw [if_neg c2]
theorem vc_ex {nx : Nat → Int32} : VCr (exT nx) := vc_lv (vc_op 6) 5
theorem vc_ln {nx : Nat → Int32} {a : Nat} {u v : Nat → Int32} (hu : ∀ i, i < 6 → u i = v i) : (lnT nx (exT nx) a).2.2.2 u = (lnT nx (exT nx) a).2.2.2 v := by
  unfold lnT
  have g := vc_ex (nx := nx) a u v hu
  have g2 := vc_ex (nx := nx) ((exT nx a).2.1 + 1) u v hu
  generalize exT nx ((exT nx a).2.1 + 1) = r at *
  generalize exT nx a = r0 at *
  by_cases ok : r0.1 = true
  · rw [if_pos ok]
    by_cases q : nx r0.2.1 = 63
    · rw [if_pos q]
      by_cases ok2 : r.1 = true
      · rw [if_pos ok2]; simp only []; rw [g, g2]
      · rw [if_neg ok2]
    · rw [if_neg q]; simp only []; rw [g]
  · rw [if_neg ok]
theorem vc_ls {nx : Nat → Int32} {n : Nat} {u v : Nat → Int32} (hu : ∀ i, i < 6 → u i = v i) : ∀ (f a : Nat), (lsT nx n (lnT nx (exT nx)) f a).2.2.2 u = (lsT nx n (lnT nx (exT nx)) f a).2.2.2 v := by
  intro f
  induction f with
  | zero => intro a; rfl
  | succ f ih =>
    intro a
    unfold lsT
    have g := vc_ln (nx := nx) (a := a) hu
    generalize lnT nx (exT nx) a = r at *
    by_cases ok : r.1 = true
    · rw [if_pos ok]
      by_cases e : n ≤ r.2.1
      · rw [if_pos e]; exact g
      · rw [if_neg e]
        by_cases q : nx r.2.1 = 59
        · rw [if_pos q]; simp only []; rw [g, ih]
        · rw [if_neg q]
    · rw [if_neg ok]
theorem LV_c {T : Nat → Int32} {n : Nat} {u v : Nat → Int32} (hu : ∀ i, i < 6 → u i = v i) : LV T n u = LV T n v := by
  have h := vc_ls (nx := bxT T n) (n := n) hu lsF 0
  unfold LV txT
  rw [h]
/-! ranks -/
def abS (v : Int32) : Int32 := if 0 ≤ v then v else 0 - v
def dS (m : am_H) (cell : Int32) : Int32 := abS (cell - m.1 1 49)
def nmS (m : am_H) (cell c told bel : Int32) (i : Nat) : Int32 := if i = 0 then dS m cell + told else if i = 1 then m.1 1 cell.toNatClampNeg else if i = 2 then caS m c + bel else if i = 3 then spS m c else if i = 4 then m.1 1 50 else c
def rkS (L : Option ((Nat → Int32) → Int32)) (m : am_H) (cell c told bel : Int32) : Int32 := match L with
  | none => -(abS (dS m cell + told - (caS m c + bel + m.1 1 50)))
  | some f => f (nmS m cell c told bel)
theorem v_sizeOf (v : Int32) : f_Model_sizeOf v = abS v := by
  simp only [f_Model_sizeOf_9, f_Model_sizeOf_4, f_Model_sizeOf, abS]
  by_cases q : 0 ≤ v
  · have : ¬ v < 0 := by rw [ti_le] at q; rw [ti_lt]; omega
    simp only [q, this, if_true, if_false]
  · have : v < 0 := by rw [ti_le] at q; rw [ti_lt]; omega
    simp only [q, this, if_true, if_false, Int32.zero_sub]
theorem abS_neg {a b : Int32} (h : a.toInt = -b.toInt) (hb : -1000 ≤ b.toInt ∧ b.toInt ≤ 1000) : abS a = abS b := by
  have z0 : (0 : Int32).toInt = 0 := rfl
  have e1 := ti_sub 0 a
  have e2 := ti_sub 0 b
  unfold abS
  rw [ti_eq]
  by_cases p : 0 ≤ a
  · rw [if_pos p]; rw [ti_le] at p
    by_cases q : 0 ≤ b
    · rw [if_pos q]; rw [ti_le] at q; omega
    · rw [if_neg q]; rw [ti_le] at q; omega
  · rw [if_neg p]; rw [ti_le] at p
    by_cases q : 0 ≤ b
    · rw [if_pos q]; rw [ti_le] at q; omega
    · rw [if_neg q]; rw [ti_le] at q; omega
theorem pin_d {m : am_H} (hV : VM m) {cell : Int32} (hc : cellB cell = true) : f_Model_sizeOf (m.1 1 49 - cell) = dS m cell := by
  have h := hV.pin
  have h1 := cellB_iff.mp hc
  have e := ti_sub cell (m.1 1 49)
  have e3 := ti_sub (m.1 1 49) cell
  rw [v_sizeOf]
  unfold dS
  exact abS_neg (by omega) (by omega)
theorem sub_sub32 (a b c : Int32) : a - b - c = a - (b + c) := by
  rw [Int32.sub_eq_add_neg, Int32.sub_eq_add_neg, Int32.sub_eq_add_neg, Int32.neg_add, Int32.sub_eq_add_neg, Int32.add_assoc]
theorem nn_at (x : am_H) (a b c d e f : Int32) : ∀ i, i < 6 → (f_Law_nameNumbers x a b c d e f).1 11 i = if i = 0 then a else if i = 1 then b else if i = 2 then c else if i = 3 then d else if i = 4 then e else f := by
  intro i hi
  unfold f_Law_nameNumbers
  simp only [nl_0, nl_1, nl_2, nl_3, nl_4, nl_5, nl_6, nl_39, nl_49, nl_50, nl_51, nl_52, nl_53, nl_93, nl_130]
  match i, hi with
  | 0, _ => simp [hI1]
  | 1, _ => simp [hI1]
  | 2, _ => simp [hI1]
  | 3, _ => simp [hI1]
  | 4, _ => simp [hI1]
  | 5, _ => simp [hI1]
theorem nn_sx (x : am_H) (a b c d e f : Int32) : sx [11] x (f_Law_nameNumbers x a b c d e f) := by
  unfold f_Law_nameNumbers
  exact (((((sx.pI _ _ _ _ (by simp)).tr (sx.pI _ _ _ _ (by simp))).tr (sx.pI _ _ _ _ (by simp))).tr (sx.pI _ _ _ _ (by simp))).tr (sx.pI _ _ _ _ (by simp))).tr (sx.pI _ _ _ _ (by simp))
theorem carry_any {x m : am_H} (hR : RH x m) (hV : VM m) (c : Int32) : ∃ q, f_Hole_carryOf x c = some q ∧ (clubB m c = true → q = caS m c) := by
  cases h : clubB m c with
  | true => exact ⟨_, v_Hole_carryOf hR hV h, fun _ => rfl⟩
  | false => exact ⟨0, by unfold f_Hole_carryOf f_Hole_carryOf_5; rw [v_Hole_hasClub hR hV, h]; rfl, fun z => absurd z (by simp)⟩
theorem spread_any {x m : am_H} (hR : RH x m) (hV : VM m) (c : Int32) : ∃ q, f_Hole_spreadOf x c = some q ∧ (clubB m c = true → q = spS m c) := by
  cases h : clubB m c with
  | true => exact ⟨_, v_Hole_spreadOf hR hV h, fun _ => rfl⟩
  | false => exact ⟨0, by unfold f_Hole_spreadOf f_Hole_spreadOf_5; rw [v_Hole_hasClub hR hV, h]; rfl, fun z => absurd z (by simp)⟩
theorem believed_any {x m : am_H} (hR : RH x m) (hV : VM m) (c : Int32) : ∃ q, f_Hole_believedOf x c = some q ∧ (clubB m c = true → q = beS m c) := by
  cases h : clubB m c with
  | true => exact ⟨_, v_Hole_believedOf hR hV h, fun _ => rfl⟩
  | false => exact ⟨0, by unfold f_Hole_believedOf f_Hole_believedOf_5; rw [v_Hole_hasClub hR hV, h]; rfl, fun z => absurd z (by simp)⟩
/-- what is believed of a club, or nothing at all -/
def blS (m : am_H) (und c : Int32) : Int32 := if und = 0 then beS m c else 0
theorem v_Reck_rankOf {x m : am_H} {L : Option ((Nat → Int32) → Int32)} (hL : RTL x m L) (hR : RH x m) (hV : VM m) {cell : Int32} (hc : cellB cell = true) (c told : Int32) : ∃ r x2, f_Reck_rankOf x cell c told = some (r, x2) ∧ sx [10, 11] x x2 ∧ (clubB m c = true → r = rkS L m cell c told (blS m (x.1 12 11) c)) := by
  have h1 := cellB_iff.mp hc
  have h2 := cellB_nat hc
  obtain ⟨q1, p1, p2⟩ := carry_any hR hV c
  obtain ⟨q2, p3, p4⟩ := spread_any hR hV c
  obtain ⟨q3, p5, p6⟩ := believed_any hR hV c
  have hd : f_Hole_cellsToPin x cell = dS m cell := by
    unfold f_Hole_cellsToPin; rw [hR.pin]; rfl
  have hgo : ∃ b, f_Reck_rankOf x cell c told = f_Reck_rankOf_49 x cell c (dS m cell + told) (q1 + b) (m.1 1 50) ∧ (clubB m c = true → b = blS m (x.1 12 11) c) := by
    unfold f_Reck_rankOf f_Reck_rankOf_8
    rw [hd, p1, Option.bind_some]
    unfold f_Reck_rankOf_20 blS
    by_cases u : x.1 12 11 = 0
    · refine ⟨q3, ?_, fun z => by rw [if_pos u]; exact p6 z⟩
      rw [if_pos u]
      unfold f_Reck_rankOf_31
      rw [p5, Option.bind_some]
      unfold f_Reck_rankOf_39 f_Hole_windNow
      rw [hR.wind]
    · refine ⟨0, ?_, fun z => by rw [if_neg u]⟩
      rw [if_neg u]
      unfold f_Reck_rankOf_27 f_Reck_rankOf_39 f_Hole_windNow
      rw [hR.wind]
  obtain ⟨b, hgo, hb⟩ := hgo
  rw [hgo]
  unfold f_Reck_rankOf_49 f_Reck_rankOf_58
  have z0 : (0 : Int32).toInt = 0 := rfl
  rcases hL with ⟨l1, l2, l3⟩ | ⟨T, n, l1, l2, l3, l4, l5, l6, l7⟩
  · have ht : f_Law_hasText x = false := by unfold f_Law_hasText; rw [l3, if_pos (by decide)]; rfl
    rw [ht, if_neg Bool.false_ne_true]
    refine ⟨_, x, rfl, sx.rf _ _, fun z => ?_⟩
    rw [l1, hb z, p2 z]; rfl
  · have w := wf_tx l5
    have ht : f_Law_hasText x = true := by unfold f_Law_hasText; rw [if_neg (by rw [ti_le]; omega)]; rfl
    rw [ht, if_pos rfl]
    unfold f_Reck_rankOf_74
    have hg : f_Hole_groundOf x cell = some (m.1 1 cell.toNatClampNeg) := by
      unfold f_Hole_groundOf f_Hole_groundOf_4
      rw [v_Hole_isCell, hc, if_pos rfl]
      unfold f_Hole_groundOf_7
      rw [if_pos (ok_of h1), hR.g h2]
    rw [hg, Option.bind_some]
    unfold f_Reck_rankOf_88
    rw [p3, Option.bind_some]
    unfold f_Reck_rankOf_98 f_Reck_rankOf_104
    have hs := nn_sx x (dS m cell + told) (m.1 1 cell.toNatClampNeg) (q1 + b) q2 (m.1 1 50) c
    have hn := nn_at x (dS m cell + told) (m.1 1 cell.toNatClampNeg) (q1 + b) q2 (m.1 1 50) c
    generalize f_Law_nameNumbers x (dS m cell + told) (m.1 1 cell.toNatClampNeg) (q1 + b) q2 (m.1 1 50) c = y at *
    obtain ⟨x2, r1, r2⟩ := v_Law_workOut (T := T) (n := n) l5 l2 (x := y) (by rw [(hs 6 (by decide)).1]; exact l6) (by rw [(hs 9 (by decide)).1]; exact l7)
    refine ⟨_, x2, by rw [r1, Option.bind_some]; rfl, (hs.mono (by simp)).tr (r2.mono (by simp)), fun z => ?_⟩
    rw [l1]
    refine LV_c (fun i hi => ?_)
    rw [hn i hi, hb z, p2 z, p4 z]
    rfl
theorem rk_C {m m2 : am_H} (e : m2.1 1 = m.1 1) (L : Option ((Nat → Int32) → Int32)) : rkS L m2 = rkS L m := by
  have e1 : nmS m2 = nmS m := by
    funext cell c told bel i; unfold nmS dS caS spS; rw [e]
  funext cell c told bel
  unfold rkS
  rw [e1]
  unfold dS caS
  rw [e]
theorem v_Model_rankOf {x m : am_H} {L : Option ((Nat → Int32) → Int32)} (hL : RTL x m L) (hV : VM m) {cell c : Int32} (hc : cellB cell = true) (hcl : clubB m c = true) (told : Int32) : ∃ m2, f_Model_rankOf m c cell told = some (rkS L m cell c told (beS m c), m2) ∧ sm [11, 12, 13, 14, 15] [7] m m2 := by
  have h1 := cellB_iff.mp hc
  have h2 := cellB_nat hc
  obtain ⟨⟨a1, a2⟩, ⟨a3, a4⟩, ⟨a5, a6⟩, a7⟩ := at_club hV hcl
  unfold f_Model_rankOf f_Model_rankOf_12
  have n49 : (49 : Int32).toNatClampNeg = 49 := rfl
  have n50 : (50 : Int32).toNatClampNeg = 50 := rfl
  rw [n49, pin_d hV hc, if_pos a1, if_pos a5, a2, a6]
  rcases hL with ⟨l1, l2, l3⟩ | ⟨T, n, l1, l2, l3, l4, l5, l6, l7⟩
  · rw [l2, if_neg (by decide)]
    refine ⟨m, ?_, sm.rf _ _ _⟩
    unfold f_Model_rankOf_44 f_Model_rankOf_60
    rw [v_sizeOf, n50, sub_sub32, l1]; rfl
  · have z0 : (0 : Int32).toInt = 0 := rfl
    rw [if_pos (by rw [ti_le]; omega)]
    unfold f_Model_rankOf_62
    rw [if_pos (ok_of (by omega)), if_pos a3]
    simp only [nl_0, nl_1, nl_2, nl_3, nl_4, nl_5, nl_6, nl_39, nl_49, nl_50, nl_51, nl_52, nl_53, nl_93, nl_130, n50]
    have hs : sm [11, 12, 13, 14, 15] [7] m (am_pI (am_pI (am_pI (am_pI (am_pI (am_pI m 7 0 (dS m cell + told)) 7 1 ((am_pI m 7 0 (dS m cell + told)).1 1 cell.toNatClampNeg)) 7 2 (caS m c + beS m c)) 7 3 ((am_pI (am_pI (am_pI m 7 0 (dS m cell + told)) 7 1 ((am_pI m 7 0 (dS m cell + told)).1 1 cell.toNatClampNeg)) 7 2 (caS m c + beS m c)).1 1 (37 + c).toNatClampNeg)) 7 4 ((am_pI (am_pI (am_pI (am_pI m 7 0 (dS m cell + told)) 7 1 ((am_pI m 7 0 (dS m cell + told)).1 1 cell.toNatClampNeg)) 7 2 (caS m c + beS m c)) 7 3 ((am_pI (am_pI (am_pI m 7 0 (dS m cell + told)) 7 1 ((am_pI m 7 0 (dS m cell + told)).1 1 cell.toNatClampNeg)) 7 2 (caS m c + beS m c)).1 1 (37 + c).toNatClampNeg)).1 1 50)) 7 5 c) :=
      (((((sm.pI _ _ _ _ (by decide) (by simp)).tr (sm.pI _ _ _ _ (by decide) (by simp))).tr (sm.pI _ _ _ _ (by decide) (by simp))).tr (sm.pI _ _ _ _ (by decide) (by simp))).tr (sm.pI _ _ _ _ (by decide) (by simp))).tr (sm.pI _ _ _ _ (by decide) (by simp))
    have hn : ∀ i, i < 6 → (am_pI (am_pI (am_pI (am_pI (am_pI (am_pI m 7 0 (dS m cell + told)) 7 1 ((am_pI m 7 0 (dS m cell + told)).1 1 cell.toNatClampNeg)) 7 2 (caS m c + beS m c)) 7 3 ((am_pI (am_pI (am_pI m 7 0 (dS m cell + told)) 7 1 ((am_pI m 7 0 (dS m cell + told)).1 1 cell.toNatClampNeg)) 7 2 (caS m c + beS m c)).1 1 (37 + c).toNatClampNeg)) 7 4 ((am_pI (am_pI (am_pI (am_pI m 7 0 (dS m cell + told)) 7 1 ((am_pI m 7 0 (dS m cell + told)).1 1 cell.toNatClampNeg)) 7 2 (caS m c + beS m c)) 7 3 ((am_pI (am_pI (am_pI m 7 0 (dS m cell + told)) 7 1 ((am_pI m 7 0 (dS m cell + told)).1 1 cell.toNatClampNeg)) 7 2 (caS m c + beS m c)).1 1 (37 + c).toNatClampNeg)).1 1 50)) 7 5 c).1 7 i = nmS m cell c told (beS m c) i := by
      intro i hi
      unfold nmS
      match i, hi with
      | 0, _ => simp [hI1]
      | 1, _ => simp [hI1]
      | 2, _ => simp [hI1]
      | 3, _ => simp [hI1, a4]
      | 4, _ => simp [hI1]
      | 5, _ => simp [hI1]
    generalize am_pI (am_pI (am_pI (am_pI (am_pI (am_pI m 7 0 (dS m cell + told)) 7 1 ((am_pI m 7 0 (dS m cell + told)).1 1 cell.toNatClampNeg)) 7 2 (caS m c + beS m c)) 7 3 ((am_pI (am_pI (am_pI m 7 0 (dS m cell + told)) 7 1 ((am_pI m 7 0 (dS m cell + told)).1 1 cell.toNatClampNeg)) 7 2 (caS m c + beS m c)).1 1 (37 + c).toNatClampNeg)) 7 4 ((am_pI (am_pI (am_pI (am_pI m 7 0 (dS m cell + told)) 7 1 ((am_pI m 7 0 (dS m cell + told)).1 1 cell.toNatClampNeg)) 7 2 (caS m c + beS m c)) 7 3 ((am_pI (am_pI (am_pI m 7 0 (dS m cell + told)) 7 1 ((am_pI m 7 0 (dS m cell + told)).1 1 cell.toNatClampNeg)) 7 2 (caS m c + beS m c)).1 1 (37 + c).toNatClampNeg)).1 1 50)) 7 5 c = y at *
    have e10 : y.1 0 10 = m.1 0 10 := hs.1 10 (by simp)
    have e6 := (hs.2.2 6 (by decide) (by simp)).1
    obtain ⟨v, m2, r1, r2, r3, -⟩ := v_Model_workOut (T := T) (n := n) (m := y) (b := 0) (N := y.1 0 10) (by rw [e10]; exact l3) l2 (Or.inr ⟨rfl, fun a ha => by rw [e6]; exact l4 a ha⟩)
    obtain ⟨r4, -⟩ := r3 l5
    refine ⟨m2, ?_, hs.tr (r2.mono (by simp) (by simp))⟩
    rw [r1, Option.bind_some, r4, l1]
    unfold f_Model_rankOf_134 rkS
    simp only []
    rw [LV_c hn]
