/-! the model's table, whole -/
def clJ (m : am_H) (g : Nat → Int32 → Int32) (j : Nat) : Int32 := if grB m (cellJ j) = true ∨ j / 31 = 0 ∨ m.1 0 6 = 0 then -2 else g (j / 31) (cellJ j)
def gB (m : am_H) (n : Nat) (c : Int32) : Int32 := (bestF m (rowG m (fB m) (n - 1)) n c).1
theorem cellJ_at {N : Nat} {c : Int32} (hc : cellB c = true) : cellJ (31 * N + c.toNatClampNeg) = c ∧ (31 * N + c.toNatClampNeg) / 31 = N := by
  have h1 := cellB_nat hc
  have h2 := cellB_iff.mp hc
  have e2 : (31 * N + c.toNatClampNeg) % 31 = c.toNatClampNeg := by omega
  refine ⟨?_, by omega⟩
  unfold cellJ
  rw [e2, ti_eq, Int32.toInt_ofNat_of_lt (by omega), ti_mk h2.1]
def Jt (m : am_H) (f : (Int32 → Int64) → Nat → Int32 → Int64) (g : Nat → Int32 → Int32) (y : am_H) (j : Nat) : Prop :=
  sm [11, 12, 13, 14, 15] [7, 8, 9, 10] m y ∧ (∀ i, i < 5 → y.2 10 i = Un i) ∧ ∀ i, i < j → y.2 8 i = rJ m f i ∧ y.1 9 i = clJ m g i
theorem v_sizeOf_pin (m : am_H) {c : Int32} (hc : cellB c = true) (hV : VM m) : 2 + f_Model_sizeOf (m.1 1 49 - c) / 5 = unS m c := by
  have h := hV.pin
  have h1 := cellB_iff.mp hc
  have e := ti_sub c (m.1 1 49)
  have e2 := ti_sub 0 (c - m.1 1 49)
  have e3 := ti_sub (m.1 1 49) c
  have e4 := ti_neg (m.1 1 49 - c)
  have z0 : (0 : Int32).toInt = 0 := rfl
  have : f_Model_sizeOf (m.1 1 49 - c) = (if 0 ≤ (c - m.1 1 49) then (c - m.1 1 49) else 0 - (c - m.1 1 49)) := by
    simp only [f_Model_sizeOf_9, f_Model_sizeOf_4, f_Model_sizeOf]
    rw [ti_eq]
    by_cases q : 0 ≤ m.1 1 49 - c
    · have q' : 0 ≤ (m.1 1 49 - c).toInt := by rw [ti_le] at q; omega
      have r1 : ¬ m.1 1 49 - c < 0 := by rw [ti_lt]; omega
      by_cases q2 : 0 ≤ c - m.1 1 49
      · rw [ti_le] at q2; simp only [q, r1, if_true, if_false]; rw [if_pos (by rw [ti_le]; omega)]; omega
      · rw [if_neg q2]; rw [ti_le] at q2; simp only [q, r1, if_true, if_false]; omega
    · have q' : (m.1 1 49 - c).toInt < 0 := by rw [ti_le] at q; omega
      have r1 : m.1 1 49 - c < 0 := by rw [ti_lt]; omega
      have q2 : 0 ≤ c - m.1 1 49 := by rw [ti_le]; omega
      simp only [q, r1, if_true, if_false]; rw [if_pos q2]; omega
  rw [this]; rfl
/-- a cell's two places are written -/
theorem Jt_next {m : am_H} {f : (Int32 → Int64) → Nat → Int32 → Int64} {g : Nat → Int32 → Int32} {y y2 : am_H} {N : Nat} {c : Int32} (hc : cellB c = true) (h : Jt m f g y (31 * N + c.toNatClampNeg)) (hs : sm [11, 12, 13, 14, 15] [7, 8, 9, 10] m y2)
    (ho : ∀ j, j ≠ 31 * N + c.toNatClampNeg → y2.2 8 j = y.2 8 j ∧ y2.1 9 j = y.1 9 j) (h10 : y2.2 10 = y.2 10) (hv : y2.2 8 (31 * N + c.toNatClampNeg) = rowG m f N c) (hg : y2.1 9 (31 * N + c.toNatClampNeg) = if grB m c = true ∨ N = 0 ∨ m.1 0 6 = 0 then -2 else g N c) : Jt m f g y2 (31 * N + c.toNatClampNeg + 1) := by
  obtain ⟨h1, h2, h3⟩ := h
  obtain ⟨e1, e2⟩ := cellJ_at (N := N) hc
  refine ⟨hs, fun i hi => by rw [h10]; exact h2 i hi, fun i hi => ?_⟩
  by_cases q : i = 31 * N + c.toNatClampNeg
  · subst q
    refine ⟨by rw [hv, rJ_at m f hc], ?_⟩
    rw [hg]
    unfold clJ
    rw [e1, e2]
  · rw [(ho i q).1, (ho i q).2]
    exact h3 i (by omega)
theorem cell_step {m : am_H} (hV : VM m) {f : (Int32 → Int64) → Nat → Int32 → Int64} {g : Nat → Int32 → Int32} {w : Int32}
    (hlast : ¬ m.1 0 6 = 0 → ∀ (k42 : am_H → Int32 → Int32 → Option am_H) (k49 : am_H → Int32 → Int32 → Int32 → Option am_H) (y : am_H) (n c : Int32) (N : Nat), n.toInt = N → 1 ≤ N ∧ N ≤ 4 → cellB c = true → Jt m f g y (31 * N + c.toNatClampNeg) →
      ∃ y2, f_Model_fills_141 k42 k49 (am_pI y 9 (31 * N + c.toNatClampNeg) (-2)) w n c (31 * n + c) = k49 y2 w n (c + 1) ∧ sm [11, 12, 13, 14, 15] [7, 8, 9, 10] m y2 ∧ (∀ j, j ≠ 31 * N + c.toNatClampNeg → y2.2 8 j = y.2 8 j ∧ y2.1 9 j = y.1 9 j) ∧ y2.2 10 = y.2 10 ∧ y2.2 8 (31 * N + c.toNatClampNeg) = f (rowG m f (N - 1)) N c ∧ y2.1 9 (31 * N + c.toNatClampNeg) = g N c)
    (k42 : am_H → Int32 → Int32 → Option am_H) (k49 : am_H → Int32 → Int32 → Int32 → Option am_H) (y : am_H) (n c : Int32) (N : Nat) (hn : n.toInt = N) (hN : N ≤ 4) (hc : cellB c = true) (hJ : Jt m f g y (31 * N + c.toNatClampNeg)) :
    ∃ y2, f_Model_fills_55 k42 k49 y w n c = k49 y2 w n (c + 1) ∧ Jt m f g y2 (31 * N + c.toNatClampNeg + 1) := by
  obtain ⟨h1, h2, h3⟩ := id hJ
  have c1 := cellB_iff.mp hc
  have hnn : n.toNatClampNeg = N := by rw [ti_nat]; omega
  obtain ⟨-, a2, -, a4⟩ := at_row0 (n := n) (by omega) hc
  rw [hnn] at a4
  have ok : am_ok (31 * n + c) 155 = true := ok_of (by omega)
  have s1 : sm [11, 12, 13, 14, 15] [7, 8, 9, 10] m (am_pI y 9 (31 * N + c.toNatClampNeg) (-2)) := h1.tr (sm.pI _ _ _ _ (by decide) (by simp))
  have e1 : (am_pI y 9 (31 * N + c.toNatClampNeg) (-2)).1 1 = m.1 1 := (s1.2.2 1 (by decide) (by simp)).1
  have e6 : (am_pI y 9 (31 * N + c.toNatClampNeg) (-2)).1 0 6 = m.1 0 6 := s1.1 6 (by simp)
  have ok5 : am_ok n 5 = true := ok_of (by omega)
  have hun : (am_pI y 9 (31 * N + c.toNatClampNeg) (-2)).2 10 N = Un N := h2 N (by omega)
  have hnext : ∀ v : Int64, v = rowG m f N c → (grB m c = true ∨ N = 0 ∨ m.1 0 6 = 0) → Jt m f g (am_pL (am_pI y 9 (31 * N + c.toNatClampNeg) (-2)) 8 (31 * N + c.toNatClampNeg) v) (31 * N + c.toNatClampNeg + 1) := by
    intro v hv hq
    refine Jt_next hc hJ (s1.tr (sm.pL _ _ _ _ (by decide) (by simp))) (fun j hj => ?_) ?_ ?_ ?_
    · refine ⟨by simp [hL2, hI2, hj], by simp [hL1, hI1, hj]⟩
    · funext j; simp [hL2, hI2]
    · rw [hL2, if_pos ⟨rfl, rfl⟩]; exact hv
    · rw [if_pos hq]; simp [hL1, hI1]
  simp only [f_Model_fills_55, ok, if_true, a4, v_Model_isGreen _ hc, grB_c e1, Option.bind_some, f_Model_fills_77]
  cases hg : grB m c with
  | true =>
    refine ⟨_, ?_, hnext ((ptS m c).toInt64 * (Un N / 12)) (by rw [rowG_n, if_pos hg]) (Or.inl hg)⟩
    simp only [if_true, f_Model_fills_80, f_Model_fills_92, f_Model_fills_288, f_Model_onGreen_36, f_Model_onGreen_26, f_Model_onGreen_21, f_Model_onGreen, ok5, nl_0, nl_1, nl_2, nl_3, nl_4, nl_5, nl_6, nl_39, nl_49, nl_50, nl_51, nl_52, nl_53, nl_93, nl_130, e1, hnn, hun, ptS]
    by_cases q : c = m.1 1 49
    · simp only [q, if_true, Option.bind_some, ok]
      rw [← q]
      simp only [ok, if_true, a4, Int64.mul_comm]
    · simp only [q, if_false, Option.bind_some, ok, if_true, a4, Int64.mul_comm]
  | false =>
    simp only [if_false, Bool.false_eq_true, f_Model_fills_96, f_Model_fills_100, e6]
    have h107 : (N = 0 ∨ m.1 0 6 = 0) → ∃ y2, f_Model_fills_107 k42 k49 (am_pI y 9 (31 * N + c.toNatClampNeg) (-2)) w n c (31 * n + c) = k49 y2 w n (c + 1) ∧ Jt m f g y2 (31 * N + c.toNatClampNeg + 1) := by
      intro hq
      refine ⟨_, ?_, hnext ((unS m c).toInt64 * Un N) (by rw [rowG_n, if_neg (by rw [hg]; decide), if_pos hq]) (Or.inr hq)⟩
      simp only [f_Model_fills_107, f_Model_fills_126, f_Model_fills_288, nl_0, nl_1, nl_2, nl_3, nl_4, nl_5, nl_6, nl_39, nl_49, nl_50, nl_51, nl_52, nl_53, nl_93, nl_130, e1, ok5, ok, if_true, hnn, hun, a4, v_sizeOf_pin m hc hV]
    have hn0 := n_zero (n := n) (by omega)
    rw [hnn] at hn0
    by_cases q0 : n = 0
    · rw [if_pos q0]; exact h107 (Or.inl (hn0.mp q0))
    · rw [if_neg q0]
      have qN : ¬ N = 0 := fun z => q0 (hn0.mpr z)
      by_cases qc : m.1 0 6 = 0
      · rw [if_pos qc]; exact h107 (Or.inr qc)
      · rw [if_neg qc]
        obtain ⟨y2, r1, r2, r3, r4, r5, r6⟩ := hlast qc k42 k49 y n c N hn (by omega) hc hJ
        refine ⟨y2, r1, Jt_next hc hJ r2 r3 r4 ?_ ?_⟩
        · rw [r5, rowG_n, if_neg (by rw [hg]; decide), if_neg (by rintro (z | z); exact qN z; exact qc z)]
        · rw [r6, if_neg (by rintro (z | z | z); · rw [hg] at z; cases z
                             · exact qN z
                             · exact qc z)]
theorem v_Model_fills {m : am_H} (hV : VM m) {f : (Int32 → Int64) → Nat → Int32 → Int64} {g : Nat → Int32 → Int32} {w : Int32}
    (hlast : ¬ m.1 0 6 = 0 → ∀ (k42 : am_H → Int32 → Int32 → Option am_H) (k49 : am_H → Int32 → Int32 → Int32 → Option am_H) (y : am_H) (n c : Int32) (N : Nat), n.toInt = N → 1 ≤ N ∧ N ≤ 4 → cellB c = true → Jt m f g y (31 * N + c.toNatClampNeg) →
      ∃ y2, f_Model_fills_141 k42 k49 (am_pI y 9 (31 * N + c.toNatClampNeg) (-2)) w n c (31 * n + c) = k49 y2 w n (c + 1) ∧ sm [11, 12, 13, 14, 15] [7, 8, 9, 10] m y2 ∧ (∀ j, j ≠ 31 * N + c.toNatClampNeg → y2.2 8 j = y.2 8 j ∧ y2.1 9 j = y.1 9 j) ∧ y2.2 10 = y.2 10 ∧ y2.2 8 (31 * N + c.toNatClampNeg) = f (rowG m f (N - 1)) N c ∧ y2.1 9 (31 * N + c.toNatClampNeg) = g N c) :
    ∃ m2, f_Model_fills m w = some m2 ∧ Jt m f g m2 155 := by
  obtain ⟨m1, a1, a2, a3⟩ := l_lines w 4 am_fu 1 (am_pL m 10 0 12) (by unfold am_fu; omega) (by decide) (by decide) (fun j hj => by
    have z1 : (1 : Int32).toInt = 1 := rfl
    have : j = 0 := by omega
    subst this
    rw [hL2, if_pos ⟨rfl, rfl⟩]; rfl)
  have hJ0 : Jt m f g m1 (31 * 0) := ⟨((sm.pL m 10 0 12 (by decide) (by simp)).tr (a2.mono (by simp) (by simp))), a3, fun i hi => by omega⟩
  obtain ⟨m2, b1, b2⟩ := l_rows (w := w) (Jt m f g) (cell_step hV hlast) 5 am_fu 0 m1 0 rfl (by unfold am_fu; omega) (by decide) hJ0
  refine ⟨m2, ?_, b2⟩
  simp only [f_Model_fills, nl_0, nl_1, nl_2, nl_3, nl_4, nl_5, nl_6, nl_39, nl_49, nl_50, nl_51, nl_52, nl_53, nl_93, nl_130, a1, f_Model_fills_40, b1]
theorem v_Model_fills0 {m : am_H} (hV : VM m) : ∃ m2, f_Model_fills m 0 = some m2 ∧ Jt m (fB m) (gB m) m2 155 := by
  refine v_Model_fills hV (fun h0 k42 k49 y n c N hn hN hc hJ => ?_)
  obtain ⟨h1, h2, h3⟩ := id hJ
  have c1 := cellB_iff.mp hc
  have hcs := hV.2
  have hnn : n.toNatClampNeg = N := by rw [ti_nat]; omega
  obtain ⟨-, a2, -, a4⟩ := at_row0 (n := n) (by omega) hc
  rw [hnn] at a4
  have ok : am_ok (31 * n + c) 155 = true := ok_of (by omega)
  have z01 : ¬ (0 : Int32) = 1 := by decide
  have z0 : (0 : Int32).toInt = 0 := rfl
  have hpos : 1 ≤ (m.1 0 6).toInt := by
    have : ¬ (m.1 0 6).toInt = (0 : Int32).toInt := fun q => h0 ((ti_eq _ _).mpr q)
    omega
  have s1 : sm [11, 12, 13, 14, 15] [7, 8, 9, 10] m (am_pI y 9 (31 * N + c.toNatClampNeg) (-2)) := h1.tr (sm.pI _ _ _ _ (by decide) (by simp))
  have e1 : (am_pI y 9 (31 * N + c.toNatClampNeg) (-2)).1 1 = m.1 1 := (s1.2.2 1 (by decide) (by simp)).1
  have e6 : (am_pI y 9 (31 * N + c.toNatClampNeg) (-2)).1 0 6 = m.1 0 6 := s1.1 6 (by simp)
  have hV1 : VM (am_pI y 9 (31 * N + c.toNatClampNeg) (-2)) := hV.fr s1 (by simp) (by simp)
  have hcl : clubB (am_pI y 9 (31 * N + c.toNatClampNeg) (-2)) 0 = true := clubB_iff.mpr (by rw [e6]; omega)
  have hrow : ∀ c', cellB c' = true → y.2 8 (31 * (n.toNatClampNeg - 1) + c'.toNatClampNeg) = rowG m (fB m) (N - 1) c' := by
    intro c' hc'
    have := cellB_nat hc'
    rw [hnn, (h3 _ (by omega)).1, rJ_at m (fB m) hc']
  have hu : y.2 10 (n.toNatClampNeg - 1) = Un (n.toNatClampNeg - 1) := h2 _ (by omega)
  have hby := v_Model_byClub hV1 (n := n) (row := rowG m (fB m) (N - 1)) hc hcl (by omega) hrow hu
  rw [byC_c e1, hnn] at hby
  have hneg : (am_pI y 9 (31 * N + c.toNatClampNeg) (-2)).1 9 (31 * N + c.toNatClampNeg) < 0 := by rw [hI1, if_pos ⟨rfl, rfl⟩]; decide
  have one : ¬ (1 : Int32) = 0 := by decide
  have hle : ¬ m.1 0 6 ≤ 0 := by rw [ti_le]; omega
  have hfu : am_fu = 4999 + 1 := rfl
  have z011 : (0 : Int32) + 1 = 1 := by decide
  have s2 : sm [11, 12, 13, 14, 15] [7, 8, 9, 10] m (am_pL (am_pI (am_pI y 9 (31 * N + c.toNatClampNeg) (-2)) 9 (31 * N + c.toNatClampNeg) 0) 8 (31 * N + c.toNatClampNeg) (byC m (rowG m (fB m) (N - 1)) N c 0)) := (s1.tr (sm.pI _ _ _ _ (by decide) (by simp))).tr (sm.pL _ _ _ _ (by decide) (by simp))
  have v9 : (am_pL (am_pI (am_pI y 9 (31 * N + c.toNatClampNeg) (-2)) 9 (31 * N + c.toNatClampNeg) 0) 8 (31 * N + c.toNatClampNeg) (byC m (rowG m (fB m) (N - 1)) N c 0)).1 9 (31 * N + c.toNatClampNeg) = 0 := by simp [hL1, hI1]
  have v8 : (am_pL (am_pI (am_pI y 9 (31 * N + c.toNatClampNeg) (-2)) 9 (31 * N + c.toNatClampNeg) 0) 8 (31 * N + c.toNatClampNeg) (byC m (rowG m (fB m) (N - 1)) N c 0)).2 8 (31 * N + c.toNatClampNeg) = byC m (rowG m (fB m) (N - 1)) N c 0 := by rw [hL2, if_pos ⟨rfl, rfl⟩]
  have o8 : ∀ j, j ≠ 31 * N + c.toNatClampNeg → (am_pL (am_pI (am_pI y 9 (31 * N + c.toNatClampNeg) (-2)) 9 (31 * N + c.toNatClampNeg) 0) 8 (31 * N + c.toNatClampNeg) (byC m (rowG m (fB m) (N - 1)) N c 0)).2 8 j = y.2 8 j := by intro j hj; simp [hL2, hI2, hj]
  have o9 : ∀ j, j ≠ 31 * N + c.toNatClampNeg → (am_pL (am_pI (am_pI y 9 (31 * N + c.toNatClampNeg) (-2)) 9 (31 * N + c.toNatClampNeg) 0) 8 (31 * N + c.toNatClampNeg) (byC m (rowG m (fB m) (N - 1)) N c 0)).1 9 j = y.1 9 j := by intro j hj; simp [hL1, hI1, hj]
  have o10 : (am_pL (am_pI (am_pI y 9 (31 * N + c.toNatClampNeg) (-2)) 9 (31 * N + c.toNatClampNeg) 0) 8 (31 * N + c.toNatClampNeg) (byC m (rowG m (fB m) (N - 1)) N c 0)).2 10 = y.2 10 := by funext j; simp [hL2, hI2]
  have hfirst : f_Model_fills_141 k42 k49 (am_pI y 9 (31 * N + c.toNatClampNeg) (-2)) 0 n c (31 * n + c) = f_Model_fills_185_l k42 k49 4999 (am_pL (am_pI (am_pI y 9 (31 * N + c.toNatClampNeg) (-2)) 9 (31 * N + c.toNatClampNeg) 0) 8 (31 * N + c.toNatClampNeg) (byC m (rowG m (fB m) (N - 1)) N c 0)) 0 n c (31 * n + c) 1 := by
    simp only [f_Model_fills_141, if_neg z01, f_Model_fills_182, hfu]
    show f_Model_fills_185 k42 k49 (f_Model_fills_185_l k42 k49 4999) (am_pI y 9 (31 * N + c.toNatClampNeg) (-2)) 0 n c (31 * n + c) 0 = _
    simp only [f_Model_fills_185, f_Model_fills_194, f_Model_fills_202, f_Model_fills_227, f_Model_fills_232, f_Model_fills_245, f_Model_fills_257, f_Model_fills_269, f_Model_fills_281, e6, if_neg hle, hby, Option.bind_some, ok, if_true, a4, if_pos hneg, if_neg one, z011]
  generalize hz : (am_pL (am_pI (am_pI y 9 (31 * N + c.toNatClampNeg) (-2)) 9 (31 * N + c.toNatClampNeg) 0) 8 (31 * N + c.toNatClampNeg) (byC m (rowG m (fB m) (N - 1)) N c 0)) = z at *
  obtain ⟨y2, r1, r2, r3, r4, r5⟩ := l_clubs hV (w := 0) (here := 31 * n + c) (row := rowG m (fB m) (N - 1)) k42 k49 hc (n := n) (by omega) a2 ((m.1 0 6).toInt.toNat - 1) 4999 1 z (by omega) (by have : (1 : Int32).toInt = 1 := rfl; omega) (by decide) s2 (fun c' hc' => by
    have := cellB_nat hc'
    have q := hrow c' hc'
    rw [hnn] at q ⊢
    rw [o8 _ (by omega)]; exact q) (by rw [o10]; exact hu) (by rw [a4, v9]; decide)
  rw [a4, v9, v8, hnn] at r5
  rw [a4] at r3
  refine ⟨y2, hfirst.trans r1, r2, fun j hj => ?_, by rw [r4, o10], ?_, ?_⟩
  · rw [(r3 j hj).1, (r3 j hj).2]; exact ⟨o8 j hj, o9 j hj⟩
  · have := congrArg Prod.snd r5; exact this
  · have := congrArg Prod.fst r5; exact this
