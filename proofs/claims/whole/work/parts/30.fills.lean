/-! the model's table -/
theorem waB_c {m m2 : am_H} (e : m2.1 1 = m.1 1) : waB m2 = waB m := by funext c; unfold waB; rw [e]
theorem grB_c {m m2 : am_H} (e : m2.1 1 = m.1 1) : grB m2 = grB m := by funext c; unfold grB; rw [e]
theorem downS_c {m m2 : am_H} (e : m2.1 1 = m.1 1) : downS m2 = downS m := by funext a b c; unfold downS aimS goesS; rw [e]
theorem sumC_c {m m2 : am_H} (e : m2.1 1 = m.1 1) : sumC m2 = sumC m := by
  funext row u cell carry k
  induction k with
  | zero => rfl
  | succ k ih =>
    funext s acc
    simp only [sumC]
    rw [ih]
    unfold restS wU
    rw [waB_c e, downS_c e]
theorem byC_c {m m2 : am_H} (e : m2.1 1 = m.1 1) : byC m2 = byC m := by
  funext row n cell c
  unfold byC spS caS
  rw [sumC_c e, e]
theorem Un_step {n : Nat} (h : 1 ≤ n ∧ n ≤ 4) : Un (n - 1) * 105 = Un n := by
  have : n = 1 ∨ n = 2 ∨ n = 3 ∨ n = 4 := by omega
  rcases this with rfl | rfl | rfl | rfl <;> decide +kernel
theorem l_lines (w : Int32) : ∀ (k f : Nat) (i : Int32) (m : am_H), k < f → (k : Int) = 5 - i.toInt → 1 ≤ i.toInt → (∀ j : Nat, (j : Int) < i.toInt → m.2 10 j = Un j) → ∃ m2, f_Model_fills_11_l f m w i = f_Model_fills_40 m2 w ∧ sm [] [10] m m2 ∧ ∀ j, j < 5 → m2.2 10 j = Un j := by
  intro k
  induction k with
  | zero =>
    intro f i m hf hk h1 hd
    obtain ⟨f, rfl⟩ : ∃ j, f = j + 1 := ⟨f - 1, by omega⟩
    have e : 4 < i := by rw [ti_lt]; have : (4 : Int32).toInt = 4 := rfl; omega
    refine ⟨m, ?_, sm.rf _ _ _, fun j hj => hd j (by omega)⟩
    show f_Model_fills_11 (f_Model_fills_11_l f) m w i = _
    simp only [f_Model_fills_11, if_pos e]
  | succ k ih =>
    intro f i m hf hk h1 hd
    obtain ⟨f, rfl⟩ : ∃ j, f = j + 1 := ⟨f - 1, by omega⟩
    have e : ¬ 4 < i := by rw [ti_lt]; have : (4 : Int32).toInt = 4 := rfl; omega
    have z1 : (1 : Int32).toInt = 1 := rfl
    have a1 := ti_add i 1
    have a2 := ti_sub i 1
    rw [z1] at a1 a2
    have a3 : (i - 1).toInt = i.toInt - 1 := by omega
    have a4 : (i - 1).toNatClampNeg = i.toNatClampNeg - 1 := by rw [ti_nat, a3, ti_nat]; omega
    have hi := ti_mk (i := i) (by omega)
    have hu := hd (i.toNatClampNeg - 1) (by omega)
    obtain ⟨m2, b1, b2, b3⟩ := ih f (i + 1) (am_pL m 10 i.toNatClampNeg (Un i.toNatClampNeg)) (by omega) (by omega) (by omega) (fun j hj => by
      rw [hL2]
      by_cases q : j = i.toNatClampNeg
      · rw [if_pos ⟨rfl, q⟩, q]
      · rw [if_neg (fun u => q u.2)]; exact hd j (by omega))
    refine ⟨m2, ?_, (sm.pL m 10 _ _ (by decide) (by simp)).tr b2, b3⟩
    show f_Model_fills_11 (f_Model_fills_11_l f) m w i = _
    simp only [f_Model_fills_11, f_Model_fills_16, if_neg e, ok_of (i := i - 1) (n := 5) (by omega), ok_of (i := i) (n := 5) (by omega), if_true, a4, hu, Un_step (n := i.toNatClampNeg) (by omega)]
    exact b1
/-- the walk over cells and rows, given one cell -/
theorem l_cells {w n : Int32} {N : Nat} (hn : n.toInt = N) (hN : N ≤ 4) (J : am_H → Nat → Prop) (k42 : am_H → Int32 → Int32 → Option am_H)
    (hcell : ∀ (k49 : am_H → Int32 → Int32 → Int32 → Option am_H) (y : am_H) (c : Int32), cellB c = true → J y (31 * N + c.toNatClampNeg) → ∃ y2, f_Model_fills_55 k42 k49 y w n c = k49 y2 w n (c + 1) ∧ J y2 (31 * N + c.toNatClampNeg + 1)) :
    ∀ (k f : Nat) (c : Int32) (y : am_H), k < f → (k : Int) = 31 - c.toInt → 0 ≤ c.toInt → J y (31 * N + c.toNatClampNeg) → ∃ y2, f_Model_fills_49_l k42 f y w n c = k42 y2 w (n + 1) ∧ J y2 (31 * N + 31) := by
  intro k
  induction k with
  | zero =>
    intro f c y hf hk h0 hJ
    obtain ⟨f, rfl⟩ : ∃ j, f = j + 1 := ⟨f - 1, by omega⟩
    have z : (31 : Int32).toInt = 31 := rfl
    have e : 31 ≤ c := by rw [ti_le]; omega
    refine ⟨y, ?_, ?_⟩
    · show f_Model_fills_49 k42 (f_Model_fills_49_l k42 f) y w n c = _
      simp only [f_Model_fills_49, f_Model_fills_294, if_pos e]
    · have : c.toNatClampNeg = 31 := by rw [ti_nat]; omega
      rw [this] at hJ; exact hJ
  | succ k ih =>
    intro f c y hf hk h0 hJ
    obtain ⟨f, rfl⟩ : ∃ j, f = j + 1 := ⟨f - 1, by omega⟩
    have z : (31 : Int32).toInt = 31 := rfl
    have z1 : (1 : Int32).toInt = 1 := rfl
    have e : ¬ 31 ≤ c := by rw [ti_le]; omega
    have a1 := ti_add c 1
    rw [z1] at a1
    have a2 : (c + 1).toNatClampNeg = c.toNatClampNeg + 1 := by rw [ti_nat, ti_nat]; omega
    obtain ⟨y2, b1, b2⟩ := hcell (f_Model_fills_49_l k42 f) y c (cellB_iff.mpr (by omega)) hJ
    obtain ⟨y3, c1, c2⟩ := ih f (c + 1) y2 (by omega) (by omega) (by omega) (by rw [a2]; exact b2)
    refine ⟨y3, ?_, c2⟩
    show f_Model_fills_49 k42 (f_Model_fills_49_l k42 f) y w n c = _
    simp only [f_Model_fills_49, if_neg e, b1]
    exact c1
theorem l_rows {w : Int32} (J : am_H → Nat → Prop)
    (hcell : ∀ (k42 : am_H → Int32 → Int32 → Option am_H) (k49 : am_H → Int32 → Int32 → Int32 → Option am_H) (y : am_H) (n c : Int32) (N : Nat), n.toInt = N → N ≤ 4 → cellB c = true → J y (31 * N + c.toNatClampNeg) → ∃ y2, f_Model_fills_55 k42 k49 y w n c = k49 y2 w n (c + 1) ∧ J y2 (31 * N + c.toNatClampNeg + 1)) :
    ∀ (k f : Nat) (n : Int32) (y : am_H) (N : Nat), n.toInt = N → k < f → (k : Int) = 5 - n.toInt → J y (31 * N) → ∃ y2, f_Model_fills_42_l f y w n = some y2 ∧ J y2 155 := by
  intro k
  induction k with
  | zero =>
    intro f n y N hN hf hk hJ
    obtain ⟨f, rfl⟩ : ∃ j, f = j + 1 := ⟨f - 1, by omega⟩
    have z : (4 : Int32).toInt = 4 := rfl
    have e : 4 < n := by rw [ti_lt]; omega
    refine ⟨y, ?_, ?_⟩
    · show f_Model_fills_42 (f_Model_fills_42_l f) y w n = _
      simp only [f_Model_fills_42, f_Model_fills_300, if_pos e]
    · have : N = 5 := by omega
      rw [this] at hJ; exact hJ
  | succ k ih =>
    intro f n y N hN hf hk hJ
    obtain ⟨f, rfl⟩ : ∃ j, f = j + 1 := ⟨f - 1, by omega⟩
    have z : (4 : Int32).toInt = 4 := rfl
    have z1 : (1 : Int32).toInt = 1 := rfl
    have z0 : (0 : Int32).toInt = 0 := rfl
    have e : ¬ 4 < n := by rw [ti_lt]; omega
    have a1 := ti_add n 1
    rw [z1] at a1
    obtain ⟨y2, b1, b2⟩ := l_cells hN (by omega) J (f_Model_fills_42_l f) (fun k49 y c hc hj => hcell _ k49 y n c N hN (by omega) hc hj) 31 am_fu 0 y (by unfold am_fu; omega) (by decide) (by decide) (by rw [nl_0]; exact hJ)
    obtain ⟨y3, c1, c2⟩ := ih f (n + 1) y2 (N + 1) (by omega) (by omega) (by omega) (by rw [show 31 * (N + 1) = 31 * N + 31 by omega]; exact b2)
    refine ⟨y3, ?_, c2⟩
    show f_Model_fills_42 (f_Model_fills_42_l f) y w n = _
    simp only [f_Model_fills_42, f_Model_fills_47, if_neg e, b1]
    exact c1
/-- the clubs of one cell, the best kept -/
theorem l_clubs {m : am_H} (hV : VM m) {w n c here : Int32} {row : Int32 → Int64} (k42 : am_H → Int32 → Int32 → Option am_H) (k49 : am_H → Int32 → Int32 → Int32 → Option am_H) (hc : cellB c = true) (hn : 1 ≤ n.toInt ∧ n.toInt ≤ 4) (hhere : here.toInt = 31 * n.toInt + c.toInt) :
    ∀ (k f : Nat) (cl : Int32) (y : am_H), k < f → (k : Int) = (m.1 0 6).toInt - cl.toInt → 1 ≤ cl.toInt → sm [11, 12, 13, 14, 15] [7, 8, 9, 10] m y → (∀ c, cellB c = true → y.2 8 (31 * (n.toNatClampNeg - 1) + c.toNatClampNeg) = row c) → y.2 10 (n.toNatClampNeg - 1) = Un (n.toNatClampNeg - 1) → 0 ≤ (y.1 9 here.toNatClampNeg).toInt →
      ∃ y2, f_Model_fills_185_l k42 k49 f y w n c here cl = k49 y2 w n (c + 1) ∧ sm [11, 12, 13, 14, 15] [7, 8, 9, 10] m y2 ∧ (∀ j, j ≠ here.toNatClampNeg → y2.2 8 j = y.2 8 j ∧ y2.1 9 j = y.1 9 j) ∧ y2.2 10 = y.2 10 ∧
        (y2.1 9 here.toNatClampNeg, y2.2 8 here.toNatClampNeg) = cfold (fun c' a => if byC m row n.toNatClampNeg c c' < a.2 then (c', byC m row n.toNatClampNeg c c') else a) k cl (y.1 9 here.toNatClampNeg, y.2 8 here.toNatClampNeg) := by
  have hcs := hV.2
  have c1 := cellB_iff.mp hc
  have hok : am_ok here 155 = true := ok_of (by omega)
  have hhn : here.toNatClampNeg = 31 * n.toNatClampNeg + c.toNatClampNeg := by rw [ti_nat, ti_nat, ti_nat]; omega
  have hnn : 1 ≤ n.toNatClampNeg := by rw [ti_nat]; omega
  intro k
  induction k with
  | zero =>
    intro f cl y hf hk h1 hs hrow hu hb
    obtain ⟨f, rfl⟩ : ∃ j, f = j + 1 := ⟨f - 1, by omega⟩
    have e : m.1 0 6 ≤ cl := by rw [ti_le]; omega
    have e6 : y.1 0 6 = m.1 0 6 := hs.1 6 (by simp)
    refine ⟨y, ?_, hs, fun j _ => ⟨rfl, rfl⟩, rfl, rfl⟩
    show f_Model_fills_185 k42 k49 (f_Model_fills_185_l k42 k49 f) y w n c here cl = _
    simp only [f_Model_fills_185, f_Model_fills_288, e6, if_pos e]
  | succ k ih =>
    intro f cl y hf hk h1 hs hrow hu hb
    obtain ⟨f, rfl⟩ : ∃ j, f = j + 1 := ⟨f - 1, by omega⟩
    have e : ¬ m.1 0 6 ≤ cl := by rw [ti_le]; omega
    have e6 : y.1 0 6 = m.1 0 6 := hs.1 6 (by simp)
    have ey : y.1 1 = m.1 1 := (hs.2.2 1 (by decide) (by simp)).1
    have a1 := ti_add cl 1
    have z1 : (1 : Int32).toInt = 1 := rfl
    have z0 : (0 : Int32).toInt = 0 := rfl
    rw [z1] at a1
    have hVy : VM y := hV.fr hs (by simp) (by simp)
    have hcl : clubB y cl = true := clubB_iff.mpr (by rw [e6]; omega)
    have hby := v_Model_byClub hVy hc hcl hn hrow hu
    rw [byC_c ey] at hby
    have hneg : ¬ y.1 9 here.toNatClampNeg < 0 := by rw [ti_lt]; omega
    have one : ¬ (1 : Int32) = 0 := by decide
    have hst : f_Model_fills_185_l k42 k49 (f + 1) y w n c here cl = (if byC m row n.toNatClampNeg c cl < y.2 8 here.toNatClampNeg then f_Model_fills_185_l k42 k49 f (am_pL (am_pI y 9 here.toNatClampNeg cl) 8 here.toNatClampNeg (byC m row n.toNatClampNeg c cl)) w n c here (cl + 1) else f_Model_fills_185_l k42 k49 f (am_pL (am_pI y 9 here.toNatClampNeg (y.1 9 here.toNatClampNeg)) 8 here.toNatClampNeg (y.2 8 here.toNatClampNeg)) w n c here (cl + 1)) := by
      show f_Model_fills_185 k42 k49 (f_Model_fills_185_l k42 k49 f) y w n c here cl = _
      simp only [f_Model_fills_185, f_Model_fills_194, f_Model_fills_202, f_Model_fills_214, f_Model_fills_227, f_Model_fills_231, f_Model_fills_232, f_Model_fills_245, f_Model_fills_250, f_Model_fills_257, f_Model_fills_269, f_Model_fills_274, f_Model_fills_281, e6, if_neg e, hby, Option.bind_some, hok, if_true, if_neg hneg, if_neg one, hI2]
      by_cases q : byC m row n.toNatClampNeg c cl < y.2 8 here.toNatClampNeg
      · have q2 : ¬ y.2 8 here.toNatClampNeg ≤ byC m row n.toNatClampNeg c cl := fun z => le64_iff.mp z q
        rw [if_neg q2, if_pos q]
      · rw [if_pos (le64_iff.mpr q), if_neg q]
    rw [hst]
    have key : ∀ (b : Int32) (v : Int64), 0 ≤ b.toInt → ∃ y2, f_Model_fills_185_l k42 k49 f (am_pL (am_pI y 9 here.toNatClampNeg b) 8 here.toNatClampNeg v) w n c here (cl + 1) = k49 y2 w n (c + 1) ∧ sm [11, 12, 13, 14, 15] [7, 8, 9, 10] m y2 ∧ (∀ j, j ≠ here.toNatClampNeg → y2.2 8 j = y.2 8 j ∧ y2.1 9 j = y.1 9 j) ∧ y2.2 10 = y.2 10 ∧ (y2.1 9 here.toNatClampNeg, y2.2 8 here.toNatClampNeg) = cfold (fun c' a => if byC m row n.toNatClampNeg c c' < a.2 then (c', byC m row n.toNatClampNeg c c') else a) k (cl + 1) (b, v) := by
      intro b v hb2
      have hs2 : sm [11, 12, 13, 14, 15] [7, 8, 9, 10] m (am_pL (am_pI y 9 here.toNatClampNeg b) 8 here.toNatClampNeg v) := (hs.tr (sm.pI _ _ _ _ (by decide) (by simp))).tr (sm.pL _ _ _ _ (by decide) (by simp))
      have v9 : (am_pL (am_pI y 9 here.toNatClampNeg b) 8 here.toNatClampNeg v).1 9 here.toNatClampNeg = b := by simp [hL1, hI1]
      have v8 : (am_pL (am_pI y 9 here.toNatClampNeg b) 8 here.toNatClampNeg v).2 8 here.toNatClampNeg = v := by simp [hL2]
      have o8 : ∀ j, j ≠ here.toNatClampNeg → (am_pL (am_pI y 9 here.toNatClampNeg b) 8 here.toNatClampNeg v).2 8 j = y.2 8 j := by intro j hj; simp [hL2, hI2, hj]
      have o9 : ∀ j, j ≠ here.toNatClampNeg → (am_pL (am_pI y 9 here.toNatClampNeg b) 8 here.toNatClampNeg v).1 9 j = y.1 9 j := by intro j hj; simp [hL1, hI1, hj]
      have o10 : (am_pL (am_pI y 9 here.toNatClampNeg b) 8 here.toNatClampNeg v).2 10 = y.2 10 := by funext j; simp [hL2, hI2]
      obtain ⟨y2, r1, r2, r3, r4, r5⟩ := ih f (cl + 1) _ (by omega) (by omega) (by omega) hs2 (fun c' hc' => by
        have := cellB_nat hc'
        rw [o8 _ (by omega)]; exact hrow c' hc') (by rw [o10]; exact hu) (by rw [v9]; exact hb2)
      rw [v9, v8] at r5
      refine ⟨y2, r1, r2, fun j hj => ?_, by rw [r4, o10], r5⟩
      rw [(r3 j hj).1, (r3 j hj).2]
      exact ⟨o8 j hj, o9 j hj⟩
    by_cases q : byC m row n.toNatClampNeg c cl < y.2 8 here.toNatClampNeg
    · rw [if_pos q]
      obtain ⟨y2, r⟩ := key cl (byC m row n.toNatClampNeg c cl) (by omega)
      refine ⟨y2, r.1, r.2.1, r.2.2.1, r.2.2.2.1, ?_⟩
      simp only [cfold, if_pos q]
      exact r.2.2.2.2
    · rw [if_neg q]
      obtain ⟨y2, r⟩ := key (y.1 9 here.toNatClampNeg) (y.2 8 here.toNatClampNeg) hb
      refine ⟨y2, r.1, r.2.1, r.2.2.1, r.2.2.2.1, ?_⟩
      simp only [cfold, if_neg q]
      exact r.2.2.2.2
