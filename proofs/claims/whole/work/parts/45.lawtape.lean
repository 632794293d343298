/-! the tape becomes the text -/
theorem ln_C {T : Nat → Int32} {n : Nat} {x : am_H} {a d : Nat} (hT : txC T n x) (ha : (x.1 6 6).toInt = a) (han : a ≤ n) (hd : (x.1 6 7).toInt = d) (hda : d ≤ a) :
    ∃ x2, f_Law_readLine x = some ((lnT (bxT T n) (exT (bxT T n)) a).1, x2) ∧ frC x x2 ∧ (x2.1 6 6).toInt = ((lnT (bxT T n) (exT (bxT T n)) a).2.1 : Nat) ∧ ((lnT (bxT T n) (exT (bxT T n)) a).1 = true → (x2.1 6 7).toInt = (d + (lnT (bxT T n) (exT (bxT T n)) a).2.2.1.length : Nat) ∧ arT (x2.1 8) d (lnT (bxT T n) (exT (bxT T n)) a).2.2.1 ∧ ∀ i, i < d → x2.1 8 i = x.1 8 i) := by
  obtain ⟨h1, h2, h3, h4⟩ := id hT
  obtain ⟨x2, s1, s2, s3, s4⟩ := ex_C x a d hT ha han hd hda
  obtain ⟨w1, w2, w3⟩ := wf_ex (T := T) (n := n) a han
  have s1' : f_Law_readLevel x 0 0 = some ((exT (bxT T n) a).1, x2) := s1
  unfold f_Law_readLine lnT
  rw [s1', Option.bind_some]
  unfold f_Law_readLine_6
  by_cases ok : (exT (bxT T n) a).1 = true
  · rw [if_pos ok, if_pos ok]
    obtain ⟨w4, w5, w6⟩ := w3 ok
    obtain ⟨t1, t2, t3⟩ := s4 ok
    obtain ⟨c, c1, c2⟩ := nx_C (hT.fr s2) s3 w2
    unfold f_Law_readLine_11
    rw [c1, Option.bind_some]
    unfold f_Law_readLine_15
    by_cases q : bxT T n (exT (bxT T n) a).2.1 = 63
    · have hq : c = 63 := by rw [cc_eq c2 (by decide) (by decide)]; exact q
      have hlt : (exT (bxT T n) a).2.1 < n := bx_lt (fun z => by rw [z] at q; exact absurd q (by decide))
      rw [if_pos hq, if_pos q]
      obtain ⟨p1, p2, p3, p4⟩ := ad_C x2 s3 (by omega)
      have hd2 : ((am_pI x2 6 6 (x2.1 6 6 + 1)).1 6 7).toInt = (d + (exT (bxT T n) a).2.2.1.length : Nat) := by rw [p3]; exact t1
      obtain ⟨x3, v1, v2, v3, v4, v5, v6⟩ := wr_C hd2 (by omega) (-31)
      unfold f_Law_readLine_20
      rw [v1, Option.bind_some]
      unfold f_Law_readLine_36
      have hf3 : frC x x3 := (s2.tr p1).tr v2
      obtain ⟨x4, u1, u2, u3, u4⟩ := ex_C x3 ((exT (bxT T n) a).2.1 + 1) (d + (exT (bxT T n) a).2.2.1.length + 1) (hT.fr hf3) (by rw [v3]; exact p2) (by omega) v4 (by omega)
      obtain ⟨y1, y2, y3⟩ := wf_ex (T := T) (n := n) ((exT (bxT T n) a).2.1 + 1) (by omega)
      have u1' : f_Law_readLevel x3 0 0 = some ((exT (bxT T n) ((exT (bxT T n) a).2.1 + 1)).1, x4) := u1
      rw [u1', Option.bind_some]
      unfold f_Law_readLine_42
      have hS3 : arT (x3.1 8) d (exT (bxT T n) a).2.2.1 := arT_c (fun j _ hj => by rw [v6 j (by omega), p4]) t2
      have hlow3 : ∀ i, i < d → x3.1 8 i = x.1 8 i := fun i hi => by rw [v6 i (by omega), p4, t3 i hi]
      generalize exT (bxT T n) ((exT (bxT T n) a).2.1 + 1) = r at *
      generalize exT (bxT T n) a = r0 at *
      by_cases ok2 : r.1 = true
      · rw [if_pos ok2, if_pos ok2]
        obtain ⟨y4, y5, y6⟩ := y3 ok2
        obtain ⟨k1, k2, k3⟩ := u4 ok2
        obtain ⟨x5, e1, e2, e3, e4, e5, e6⟩ := wr_C k1 (by omega) (-32)
        unfold f_Law_readLine_47
        rw [e1, Option.bind_some]
        refine ⟨x5, rfl, (hf3.tr u2).tr e2, by rw [e3]; exact u3, fun _ => ⟨?_, ?_, fun i hi => by rw [e6 i (by omega), k3 i (by omega), hlow3 i hi]⟩⟩
        · rw [e4]; simp only [List.length_append, List.length_cons, List.length_nil]; omega
        · refine arT_app.mpr ⟨arT_c (fun j _ hj => by rw [e6 j (by omega), k3 j (by omega)]) hS3, ?_, arT_app.mpr ⟨arT_c (fun j _ hj => e6 j (by omega)) k2, e5, trivial⟩⟩
          rw [e6 _ (by omega), k3 _ (by omega)]; exact v5
      · rw [if_neg ok2, if_neg ok2]
        exact ⟨x4, rfl, hf3.tr u2, u3, fun z => absurd z (by simp)⟩
    · have hq : ¬ c = 63 := by rw [cc_eq c2 (by decide) (by decide)]; exact q
      rw [if_neg hq, if_neg q]
      obtain ⟨x5, e1, e2, e3, e4, e5, e6⟩ := wr_C t1 (by omega) (-32)
      unfold f_Law_readLine_47
      rw [e1, Option.bind_some]
      refine ⟨x5, rfl, s2.tr e2, by rw [e3]; exact s3, fun _ => ⟨?_, arT_app.mpr ⟨arT_c (fun j _ hj => e6 j (by omega)) t2, e5, trivial⟩, fun i hi => by rw [e6 i (by omega), t3 i hi]⟩⟩
      rw [e4]; simp only [List.length_append, List.length_cons, List.length_nil]; omega
  · rw [if_neg ok, if_neg ok]
    exact ⟨x2, rfl, s2, s3, fun z => absurd z (by simp)⟩
theorem ls_C {T : Nat → Int32} {n : Nat} : ∀ (f fu : Nat) (x : am_H) (a d : Nat) (cnt : Int32), f < fu → cnt.toInt + f = 121 → 0 ≤ cnt.toInt → txC T n x → (x.1 6 6).toInt = a → a ≤ n → (x.1 6 7).toInt = d → d ≤ a →
    ∃ x2, f_Law_readLines_2_l fu x cnt = some ((lsT (bxT T n) n (lnT (bxT T n) (exT (bxT T n))) f a).1, x2) ∧ frC x x2 ∧ (x2.1 6 6).toInt = ((lsT (bxT T n) n (lnT (bxT T n) (exT (bxT T n))) f a).2.1 : Nat) ∧ ((lsT (bxT T n) n (lnT (bxT T n) (exT (bxT T n))) f a).1 = true → (x2.1 6 7).toInt = (d + (lsT (bxT T n) n (lnT (bxT T n) (exT (bxT T n))) f a).2.2.1.length : Nat) ∧ arT (x2.1 8) d (lsT (bxT T n) n (lnT (bxT T n) (exT (bxT T n))) f a).2.2.1 ∧ ∀ i, i < d → x2.1 8 i = x.1 8 i) := by
  have z120 : (120 : Int32).toInt = 120 := rfl
  have z1 : (1 : Int32).toInt = 1 := rfl
  intro f
  induction f with
  | zero =>
    intro fu x a d cnt hf hc h0 hT ha han hd hda
    obtain ⟨g, rfl⟩ : ∃ g, fu = g + 1 := ⟨fu - 1, by omega⟩
    refine ⟨x, ?_, frC.rf x, ha, fun z => absurd z (by simp [lsT])⟩
    show f_Law_readLines_2 _ x cnt = _
    unfold f_Law_readLines_2
    rw [if_pos (by rw [ti_lt]; omega)]; rfl
  | succ f ih =>
    intro fu x a d cnt hf hc h0 hT ha han hd hda
    obtain ⟨g, rfl⟩ : ∃ g, fu = g + 1 := ⟨fu - 1, by omega⟩
    obtain ⟨h1, h2, h3, h4⟩ := id hT
    obtain ⟨x2, s1, s2, s3, s4⟩ := ln_C hT ha han hd hda
    obtain ⟨w1, w2, w3⟩ := wf_ln (T := T) han
    have hgo : f_Law_readLines_2_l (g + 1) x cnt = f_Law_readLines_12 (f_Law_readLines_2_l g) x2 cnt (lnT (bxT T n) (exT (bxT T n)) a).1 := by
      show f_Law_readLines_2 _ x cnt = _
      unfold f_Law_readLines_2
      rw [if_neg (by rw [ti_lt]; omega)]
      unfold f_Law_readLines_8
      rw [s1, Option.bind_some]
    rw [hgo]
    unfold f_Law_readLines_12 lsT
    generalize lnT (bxT T n) (exT (bxT T n)) a = r at *
    by_cases ok : r.1 = true
    · rw [if_pos ok, if_pos ok]
      obtain ⟨w4, w5, w6⟩ := w3 ok
      obtain ⟨t1, t2, t3⟩ := s4 ok
      have hT2 := hT.fr s2
      unfold f_Law_readLines_17
      by_cases e : n ≤ r.2.1
      · rw [if_pos e, if_neg (by rw [ti_lt, hT2.1]; omega)]
        exact ⟨x2, by rw [ok]; rfl, s2, s3, fun _ => ⟨t1, t2, t3⟩⟩
      · rw [if_neg e, if_pos (by rw [ti_lt, hT2.1]; omega)]
        obtain ⟨c, c1, c2⟩ := nx_C hT2 s3 w2
        unfold f_Law_readLines_30
        rw [c1, Option.bind_some]
        unfold f_Law_readLines_34
        by_cases q : bxT T n r.2.1 = 59
        · have hq : c = 59 := by rw [cc_eq c2 (by decide) (by decide)]; exact q
          rw [if_pos hq, if_pos q]
          obtain ⟨p1, p2, p3, p4⟩ := ad_C x2 s3 (by omega)
          have tc : (cnt + 1).toInt = cnt.toInt + 1 := by rw [ti_add]; omega
          unfold f_Law_readLines_41
          obtain ⟨x4, i1, i2, i3, i4⟩ := ih g _ (r.2.1 + 1) (d + r.2.2.1.length) (cnt + 1) (by omega) (by omega) (by omega) (hT2.fr p1) p2 (by omega) (by rw [p3]; exact t1) (by omega)
          refine ⟨x4, i1, (s2.tr p1).tr i2, i3, fun z => ?_⟩
          obtain ⟨j1, j2, j3⟩ := i4 z
          refine ⟨?_, arT_app.mpr ⟨arT_c (fun j _ hj => by rw [j3 j (by omega), p4]) t2, j2⟩, fun i hi => by rw [j3 i (by omega), p4, t3 i hi]⟩
          rw [j1]; simp only [List.length_append]; omega
        · have hq : ¬ c = 59 := by rw [cc_eq c2 (by decide) (by decide)]; exact q
          rw [if_neg hq, if_neg q]
          exact ⟨x2, rfl, s2, s3, fun z => absurd z (by simp)⟩
    · rw [if_neg ok, if_neg ok]
      exact ⟨x2, rfl, s2, s3, fun z => absurd z (by simp)⟩
theorem v_readTape {T : Nat → Int32} {n : Nat} {x : am_H} (hT : txC T n x) : ∃ r x2, f_Law_readTape x = some (r, x2) ∧ sx [6, 8, 9] x x2 ∧ x2.1 6 5 = 0 ∧
    ((txT T n).1 = true → r = 1 ∧ (x2.1 6 8).toInt = ((txT T n).2.2.1.length : Nat) ∧ arT (x2.1 9) 0 (txT T n).2.2.1) ∧
    ((txT T n).1 = false → r.toInt = -100 - ((txT T n).2.1 : Nat) ∧ x2.1 6 8 = x.1 6 8 ∧ x2.1 9 = x.1 9) := by
  have z0 : (0 : Int32).toInt = 0 := rfl
  obtain ⟨h1, h2, h3, h4⟩ := id hT
  have hf0 : frC x (am_pI (am_pI x 6 6 0) 6 7 0) := ⟨(sx.pI _ _ _ _ (by simp)).tr (sx.pI _ _ _ _ (by simp)), fun i h1 h2 => by simp [hI1, h1, h2]⟩
  obtain ⟨x2, i1, i2, i3, i4⟩ := ls_C (T := T) (n := n) lsF am_fu (am_pI (am_pI x 6 6 0) 6 7 0) 0 0 0 (by rw [lsF_eq]; unfold am_fu; omega) (by rw [lsF_eq]; decide) (by decide) (hT.fr hf0) (by simp [hI1]) (Nat.zero_le _) (by simp [hI1]) (Nat.le_refl _)
  obtain ⟨w1, w2⟩ := wf_ls (T := T) (n := n) lsF 0 (Nat.zero_le _)
  have htx : lsT (bxT T n) n (lnT (bxT T n) (exT (bxT T n))) lsF 0 = txT T n := rfl
  rw [htx] at i1 i3 i4 w1 w2
  have hfr := hf0.tr i2
  unfold f_Law_readTape f_Law_readLines
  rw [i1, Option.bind_some]
  unfold f_Law_readTape_14
  by_cases ok : (txT T n).1 = true
  · rw [if_pos ok]
    obtain ⟨t1, t2, t3⟩ := i4 ok
    obtain ⟨w3, w4⟩ := w2 ok
    refine ⟨1, _, rfl, ?_, ?_, fun _ => ⟨rfl, ?_, ?_⟩, fun z => absurd ok (by rw [z]; simp)⟩
    · exact (((hfr.1.mono (by simp)).tr (sx.pI x2 6 5 0 (by simp))).tr (sx.cI _ _ _ _ _ _ (by simp))).tr (sx.pI _ _ _ _ (by simp))
    · simp [hI1, hcI1]
    · simp only [hI1, hcI1]
      simp
      simpa using t1
    · refine arT_c (g := x2.1 8) (fun j hj1 hj2 => ?_) t2
      simp only [hI1, hcI1]
      have : j < 130 := by omega
      simp [nl_130, nl_0, this]
  · rw [if_neg ok]
    refine ⟨-100 - x2.1 6 6, am_pI x2 6 5 0, ?_, (hfr.1.mono (by simp)).tr (sx.pI _ _ _ _ (by simp)), by simp [hI1], fun z => absurd z ok, fun _ => ⟨?_, ?_, ?_⟩⟩
    · show some (-100 - (am_pI x2 6 5 0).1 6 6, am_pI x2 6 5 0) = _
      simp [hI1]
    · have e := ti_sub (-100) (x2.1 6 6)
      have z100 : (-100 : Int32).toInt = -100 := rfl
      rw [z100, i3] at e
      omega
    · simp [hI1, hfr.2 8 (by decide) (by decide)]
    · rw [← (hfr.1 9 (by decide)).1]; funext j; simp [hI1]
/-- the law kept is L (none: no text) -/
def RTL (x m : am_H) (L : Option ((Nat → Int32) → Int32)) : Prop := (L = none ∧ m.1 0 10 = -1 ∧ x.1 6 8 = 0) ∨
  ∃ (T : Nat → Int32) (n : Nat), L = some (LV T n) ∧ n ≤ 120 ∧ (m.1 0 10).toInt = n ∧ (∀ a, a < n → m.1 6 a = T a) ∧ (txT T n).1 = true ∧ (x.1 6 8).toInt = ((txT T n).2.2.1.length : Nat) ∧ arT (x.1 9) 0 (txT T n).2.2.1
theorem RTL.fx {x x2 m : am_H} {ks : List Nat} {L : Option ((Nat → Int32) → Int32)} (h : RTL x m L) (s : sx ks x x2) (hk : 6 ∉ ks ∧ 9 ∉ ks) : RTL x2 m L := by
  unfold RTL at *
  rw [(s 6 hk.1).1, (s 9 hk.2).1]
  exact h
theorem RTL.fm {x m m2 : am_H} {ss ks : List Nat} {L : Option ((Nat → Int32) → Int32)} (h : RTL x m L) (s : sm ss ks m m2) (h1 : 10 ∉ ss) (h2 : 6 ∉ ks) : RTL x m2 L := by
  unfold RTL at *
  rw [(s.2.2 6 (by decide) h2).1, s.1 10 h1]
  exact h
theorem l_lawcopy (N : Int32) (n : Nat) (hN : N.toInt = n) (hn : n ≤ 120) : ∀ (k fu : Nat) (y : am_H) (i : Int32) (j : Nat), i.toInt = j → j + k = n → k < fu → (∀ a, a < j → y.1 6 a = y.1 5 a) →
    ∃ y2, f_Model_law_37_l fu y N i = some (1, y2) ∧ sm [10] [6] y y2 ∧ y2.1 0 10 = N ∧ ∀ a, a < n → y2.1 6 a = y.1 5 a := by
  intro k
  induction k with
  | zero =>
    intro fu y i j hi hk hf hd
    obtain ⟨g, rfl⟩ : ∃ g, fu = g + 1 := ⟨fu - 1, by omega⟩
    refine ⟨am_pI y 0 10 N, ?_, sm.p0 _ _ _ (by simp), by simp [hI1], fun a ha => by rw [hI1, if_neg (by simp)]; exact hd a (by omega)⟩
    show f_Model_law_37 _ y N i = _
    unfold f_Model_law_37
    rw [if_pos (by rw [ti_le]; omega)]; rfl
  | succ k ih =>
    intro fu y i j hi hk hf hd
    obtain ⟨g, rfl⟩ : ∃ g, fu = g + 1 := ⟨fu - 1, by omega⟩
    have s1 : sm [10] [6] y (am_pI y 6 j (y.1 5 j)) := sm.pI _ _ _ _ (by decide) (by simp)
    have e5 : (am_pI y 6 j (y.1 5 j)).1 5 = y.1 5 := by funext q; simp [hI1]
    obtain ⟨y2, a1, a2, a3, a4⟩ := ih g (am_pI y 6 j (y.1 5 j)) (i + 1) (j + 1) (i_next hi (by omega)) (by omega) (by omega) (fun a ha => by
      rw [e5, hI1]
      by_cases q : a = j
      · rw [if_pos ⟨rfl, q⟩, q]
      · rw [if_neg (fun z => q z.2)]; exact hd a (by omega))
    rw [e5] at a4
    refine ⟨y2, ?_, s1.tr a2, a3, a4⟩
    show f_Model_law_37 _ y N i = _
    unfold f_Model_law_37
    rw [if_neg (by rw [ti_le]; omega)]
    unfold f_Model_law_42
    rw [if_pos (ok_of (by omega)), i_nat hi]
    exact a1
theorem E_law {x m : am_H} {L : Option ((Nat → Int32) → Int32)} (hT : RT0 x m) (hL : RTL x m L) (hF : KF x) : ∃ r x2 m2 L2, f_Club_law x = some (r, x2) ∧ f_Model_law m = some (r, m2) ∧ RT0 x2 m2 ∧ RTL x2 m2 L2 ∧ KZ x2 ∧ KF x2 ∧ sx [6, 8, 9, 12, 13, 14] x x2 ∧ x2.1 12 11 = x.1 12 11 ∧ sm [8, 10, 11, 12, 13, 14, 15] [6] m m2 := by
  obtain ⟨h1, h2, h3, h4, h5⟩ := id hT
  obtain ⟨x1, f1, f2, f3, f4, f5⟩ := v_forget hF
  have hT1 := hT.fx f4 (by decide)
  obtain ⟨n, hn⟩ : ∃ n : Nat, (m.1 0 8).toInt = n := ⟨(m.1 0 8).toInt.toNat, by omega⟩
  have htx : txC (m.1 5) n x1 := by
    refine ⟨by rw [hT1.1]; exact hn, by omega, fun a ha => hT1.2.2.2.1 a (by omega), fun a ha => h5 a (by omega)⟩
  obtain ⟨r, x2, a1, a2, a3, a4, a5⟩ := v_readTape htx
  obtain ⟨v, m2, b1, b2, b3, b4⟩ := v_Model_workOut (T := m.1 5) (n := n) (m := m) (b := -1) hn (by omega) (Or.inl ⟨rfl, fun _ _ => rfl⟩)
  have e8 : m2.1 0 8 = m.1 0 8 := b2.1 8 (by simp)
  have e14 : (am_pI m2 0 8 0).1 0 14 = m2.1 0 14 := by simp [hI1]
  have hx : f_Club_law x = some (r, x2) := by
    unfold f_Club_law
    rw [f1, Option.bind_some]
    unfold f_Club_law_7
    rw [a1, Option.bind_some]; rfl
  have hsx : sx [6, 8, 9, 12, 13, 14] x x2 := (f4.mono (by simp)).tr (a2.mono (by simp))
  have e12 := a2 12 (by decide)
  have hKZ : KZ x2 := by unfold KZ; rw [(a2 13 (by decide)).2, (a2 14 (by decide)).2, e12.1]; exact f2
  have hKF : KF x2 := by unfold KF; rw [(a2 13 (by decide)).2, (a2 14 (by decide)).2, e12.1]; exact f3
  have hR0 : ∀ (m3 : am_H), m3.1 0 8 = 0 → m3.1 5 = m.1 5 → RT0 x2 m3 := by
    intro m3 g1 g2
    refine ⟨by rw [a3, g1], by rw [g1]; decide, by rw [g1]; decide, fun i hi => ?_, fun i hi => by rw [g2]; exact h5 i hi⟩
    rw [(hsx 7 (by decide)).1, g2]; exact h4 i hi
  have hm : f_Model_law m = f_Model_law_9 m2 v := by
    unfold f_Model_law
    rw [b1, Option.bind_some]
  have z0 : (0 : Int32).toInt = 0 := rfl
  have e5 : m2.1 5 = m.1 5 := (b2.2.2 5 (by decide) (by simp)).1
  have s8 : sm [8, 10, 11, 12, 13, 14, 15] [6] m (am_pI m2 0 8 0) := (b2.mono (by simp) (by simp)).tr (sm.p0 _ _ _ (by simp))
  cases ok : (txT (m.1 5) n).1 with
  | true =>
    obtain ⟨c1, c2, c3⟩ := a4 ok
    obtain ⟨d1, d2⟩ := b3 ok
    have e55 : (am_pI m2 0 8 0).1 5 = m.1 5 := by rw [← e5]; funext q; simp [hI1]
    obtain ⟨y2, g1, g2, g3, g4⟩ := l_lawcopy (m.1 0 8) n hn (by omega) n am_fu (am_pI m2 0 8 0) 0 0 (by decide) (by omega) (by unfold am_fu; omega) (fun a ha => by omega)
    rw [e55] at g4
    refine ⟨r, x2, y2, some (LV (m.1 5) n), hx, ?_, hR0 y2 ?_ ?_, Or.inr ⟨m.1 5, n, rfl, by omega, by rw [g3]; exact hn, g4, ok, c2, c3⟩, hKZ, hKF, hsx, by rw [e12.1, f5], s8.tr (g2.mono (by simp) (by simp))⟩
    · rw [hm, c1]
      unfold f_Model_law_9
      rw [if_pos (by rw [e14, d2]; decide)]
      unfold f_Model_law_35
      rw [e8]; exact g1
    · rw [g2.1 8 (by simp)]; simp [hI1]
    · rw [(g2.2.2 5 (by decide) (by simp)).1]; exact e55
  | false =>
    obtain ⟨c1, c2, c3⟩ := a5 ok
    have d1 := b4 ok
    refine ⟨r, x2, am_pI m2 0 8 0, L, hx, ?_, hR0 _ (by simp [hI1]) (by rw [← e5]; funext q; simp [hI1]), ?_, hKZ, hKF, hsx, by rw [e12.1, f5], s8⟩
    · rw [hm]
      unfold f_Model_law_9
      rw [if_neg (by rw [e14, ti_lt]; omega)]
      unfold f_Model_law_27
      rw [e14]
      have er : -100 - m2.1 0 14 = r := by
        have e := ti_sub (-100) (m2.1 0 14)
        have z100 : (-100 : Int32).toInt = -100 := rfl
        have w := (wf_ls (T := m.1 5) (n := n) lsF 0 (Nat.zero_le _)).1
        have w2 : (txT (m.1 5) n).2.1 ≤ n := w
        rw [z100, d1] at e
        rw [ti_eq]; omega
      rw [er]
    · have hL2 : RTL x2 m L := by
        unfold RTL
        rw [c2, c3, (f4 6 (by decide)).1, (f4 9 (by decide)).1]
        exact hL
      have s9 : sm [8, 11, 12, 13, 14, 15] [] m (am_pI m2 0 8 0) := (b2.mono (by simp) (by simp)).tr (sm.p0 _ _ _ (by simp))
      exact hL2.fm s9 (by simp) (by simp)
