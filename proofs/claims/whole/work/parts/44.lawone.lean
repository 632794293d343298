/-! the model's operand; its lines -/
theorem num_M {m0 : am_H} {T : Nat → Int32} {n : Nat} {k : Int} {rc : rc_Model_both} (hb : byM m0 T n) (hn : n ≤ 120) : ∀ (f fu : Nat) (m : am_H) (a : Nat) (v cnt : Int32), f < fu → cnt.toInt + f = 4 → 0 ≤ cnt.toInt → stM m0 n k m a →
    ∃ m2 c2, f_Model_one_176_l rc fu m v cnt = f_Model_one_229 rc m2 (numT (bxT T n) f a v).2 c2 ∧ stM m0 n k m2 (numT (bxT T n) f a v).1 ∧ c2.toInt = cnt.toInt + ((numT (bxT T n) f a v).1 : Int) - a := by
  have z4 : (4 : Int32).toInt = 4 := rfl
  have z48 : (48 : Int32).toInt = 48 := rfl
  have z57 : (57 : Int32).toInt = 57 := rfl
  intro f
  induction f with
  | zero =>
    intro fu m a v cnt hf hc h0 hS
    obtain ⟨g, rfl⟩ : ∃ g, fu = g + 1 := ⟨fu - 1, by omega⟩
    refine ⟨m, cnt, ?_, hS, by simp only [numT]; omega⟩
    show f_Model_one_176 rc _ m v cnt = _
    unfold f_Model_one_176
    rw [if_pos (by rw [ti_le]; omega)]; rfl
  | succ f ih =>
    intro fu m a v cnt hf hc h0 hS
    obtain ⟨g, rfl⟩ : ∃ g, fu = g + 1 := ⟨fu - 1, by omega⟩
    have hB := hb m a hS.1 hS.2.2.1 hS.2.2.2.1
    have h182 : f_Model_one_176_l rc (g + 1) m v cnt = f_Model_one_186 rc (f_Model_one_176_l rc g) m v cnt (bxT T n a) := by
      show f_Model_one_176 rc _ m v cnt = _
      unfold f_Model_one_176
      rw [if_neg (by rw [ti_le]; omega)]
      unfold f_Model_one_182
      rw [hB, Option.bind_some]
    rw [h182]
    unfold f_Model_one_186 numT
    rw [dig_iff]
    by_cases d1 : bxT T n a < 48
    · rw [if_pos d1, if_neg (by rw [decide_eq_true_iff]; rw [ti_lt] at d1; omega)]
      exact ⟨m, cnt, rfl, hS, by simp only []; omega⟩
    · rw [if_neg d1]
      unfold f_Model_one_191
      rw [hB, Option.bind_some]
      unfold f_Model_one_195
      by_cases d2 : 57 < bxT T n a
      · rw [if_pos d2, if_neg (by rw [decide_eq_true_iff]; rw [ti_lt] at d2; omega)]
        exact ⟨m, cnt, rfl, hS, by simp only []; omega⟩
      · rw [ti_lt] at d1 d2
        rw [if_neg (by rw [ti_lt]; exact d2), if_pos (by rw [decide_eq_true_iff]; omega)]
        unfold f_Model_one_200
        rw [hB, Option.bind_some]
        unfold f_Model_one_208
        have hlt : a < n := bx_lt (fun q => by rw [q] at d1; exact d1 (by decide))
        have ev : 10 * v + bxT T n a - 48 = v * 10 + (bxT T n a - 48) := by
          rw [Int32.mul_comm, Int32.sub_eq_add_neg, Int32.sub_eq_add_neg, Int32.add_assoc]
        rw [ev]
        have hc1 : (cnt + 1).toInt = cnt.toInt + 1 := by
          have z1 : (1 : Int32).toInt = 1 := rfl
          rw [ti_add, z1]; omega
        obtain ⟨m2, c2, i1, i2, i3⟩ := ih g _ (a + 1) (v * 10 + (bxT T n a - 48)) (cnt + 1) (by omega) (by rw [hc1]; omega) (by rw [hc1]; omega) (ad_M hS hlt hn)
        exact ⟨m2, c2, i1, i2, by rw [i3, hc1]; omega⟩
theorem at_M {m0 : am_H} {T : Nat → Int32} {n : Nat} {k : Int} {rc : rc_Model_both} {els : PR} {m : am_H} {a : Nat} (hb : byM m0 T n) (hn : n ≤ 120) (hS : stM m0 n k m a)
    (h1 : (bxT T n a = 33 ∨ bxT T n a = 45 ∨ bxT T n a = 40) → ∃ v m2, f_Model_one_32 rc m (bxT T n a) = some (v, m2) ∧ (els.1 = true → v = els.2.2.2 (m0.1 7) ∧ stM m0 n k m2 els.2.1) ∧ (els.1 = false → flM m0 n m2 els.2.1))
    (h2 : ¬ (bxT T n a = 33 ∨ bxT T n a = 45 ∨ bxT T n a = 40) → els.1 = false ∧ els.2.1 = a) :
    ∃ v m2, f_Model_one_0 rc m = some (v, m2) ∧ ((atT (bxT T n) els a).1 = true → v = (atT (bxT T n) els a).2.2.2 (m0.1 7) ∧ stM m0 n k m2 (atT (bxT T n) els a).2.1) ∧ ((atT (bxT T n) els a).1 = false → flM m0 n m2 (atT (bxT T n) els a).2.1) := by
  have hB := hb m a hS.1 hS.2.2.1 hS.2.2.2.1
  have h9 : f_Model_one_0 rc m = f_Model_one_13 rc m (bxT T n a) := by
    unfold f_Model_one_0
    rw [if_pos (by rw [hS.2.1]; decide)]
    unfold f_Model_one_9
    rw [hB, Option.bind_some]
  rw [h9]
  by_cases hs : bxT T n a = 33 ∨ bxT T n a = 45 ∨ bxT T n a = 40
  · have hgo : f_Model_one_13 rc m (bxT T n a) = f_Model_one_32 rc m (bxT T n a) := by
      unfold f_Model_one_13
      by_cases e1 : bxT T n a = 33
      · rw [if_pos e1]
      · rw [if_neg e1]
        unfold f_Model_one_20
        by_cases e2 : bxT T n a = 45
        · rw [if_pos e2]
        · rw [if_neg e2]
          unfold f_Model_one_26
          rw [if_pos ((hs.resolve_left e1).resolve_left e2)]
    have hat : atT (bxT T n) els a = els := by
      unfold atT
      rcases hs with q | q | q <;> rw [q] <;> rfl
    rw [hgo, hat]
    exact h1 hs
  · have hgo : f_Model_one_13 rc m (bxT T n a) = f_Model_one_149 rc m (f_Model_nameOf (bxT T n a)) := by
      unfold f_Model_one_13
      rw [if_neg (fun q => hs (Or.inl q))]
      unfold f_Model_one_20
      rw [if_neg (fun q => hs (Or.inr (Or.inl q)))]
      unfold f_Model_one_26
      rw [if_neg (fun q => hs (Or.inr (Or.inr q)))]
      rfl
    rw [hgo]
    have z0 : (0 : Int32).toInt = 0 := rfl
    have nb := name_b (bxT T n a)
    obtain ⟨g1, g2⟩ := h2 hs
    by_cases d : f_Law_isDigit (bxT T n a) = true
    · have hnm : f_Model_nameOf (bxT T n a) = -1 := by
        rw [dig_iff] at d
        have d2 := of_decide_eq_true d
        have key : ∀ q : Int32, 57 < q.toInt → ¬ bxT T n a = q := fun q hq z => by rw [z] at d2; omega
        simp only [f_Model_nameOf_64, f_Model_nameOf_60, f_Model_nameOf_62, f_Model_nameOf_70, f_Model_nameOf_66, f_Model_nameOf_68, f_Model_nameOf_72, f_Model_nameOf, key 99 (by decide), key 100 (by decide), key 103 (by decide), key 107 (by decide), key 115 (by decide), key 119 (by decide), if_false]
      rw [hnm]
      unfold f_Model_one_149
      rw [if_pos (by decide)]
      unfold f_Model_one_171 atT
      rw [if_pos d]
      obtain ⟨m2, c2, i1, i2, i3⟩ := num_M (rc := rc) (k := k) hb hn 4 am_fu m a 0 0 (by unfold am_fu; omega) (by decide) (by decide) hS
      have h3 := num_first d
      rw [z0] at i3
      rw [i1]
      unfold f_Model_one_229
      rw [if_neg (by rw [ti_eq]; omega)]
      exact ⟨_, m2, rfl, fun _ => ⟨rfl, i2⟩, fun q => absurd q (by simp)⟩
    · by_cases e : 0 ≤ (f_Model_nameOf (bxT T n a)).toInt
      · have hlt := name_lt e
        unfold f_Model_one_149 atT
        rw [if_neg (by rw [ti_lt]; omega), if_neg d, if_pos e]
        unfold f_Model_one_154
        rw [if_pos (ok_of (by omega))]
        refine ⟨_, _, rfl, fun _ => ⟨?_, ad_M hS hlt hn⟩, fun q => absurd q (by simp)⟩
        rw [hI1, if_neg (by simp), (hS.1.2.2 7 (by decide) (by simp)).1]
      · have hnm : f_Model_nameOf (bxT T n a) < 0 := by rw [ti_lt]; omega
        unfold f_Model_one_149 atT
        rw [if_pos hnm, if_neg d, if_neg e]
        unfold f_Model_one_171
        obtain ⟨m2, c2, i1, i2, i3⟩ := num_M (rc := rc) (k := k) hb hn 4 am_fu m a 0 0 (by unfold am_fu; omega) (by decide) (by decide) hS
        have hz : numT (bxT T n) 4 a 0 = (a, 0) := by unfold numT; rw [if_neg d]
        rw [hz] at i1 i2 i3
        rw [z0] at i3
        have hc2 : c2 = 0 := by rw [ti_eq, i3]; simp only []; omega
        rw [i1, hc2]
        unfold f_Model_one_229
        rw [if_pos rfl]
        refine ⟨_, _, rfl, fun q => absurd q (by rw [g1]; simp), fun _ => ?_⟩
        rw [g2]
        exact wg_0 i2
theorem op6_up {m0 m : am_H} {n a : Nat} {k : Int} (h : stM m0 n k m a) (hk : 0 ≤ k ∧ k < 6) (ha : a < n) (hn : n ≤ 120) : stM m0 n (k + 1) (am_pI (am_pI m 0 15 ((m.1 0 15) + 1)) 0 12 (((am_pI m 0 15 ((m.1 0 15) + 1)).1 0 12) + 1)) (a + 1) := by
  obtain ⟨h1, h2, h3, h4, h5⟩ := h
  have z1 : (1 : Int32).toInt = 1 := rfl
  refine ⟨(h1.tr (sm.p0 _ _ _ (by simp))).tr (sm.p0 _ _ _ (by simp)), by simp only [hI1]; simpa using h2, ?_, ha, ?_⟩
  · simp only [hI1]
    have e := i_next h3 (by omega)
    simpa using e
  · simp only [hI1]
    have e : (m.1 0 15 + 1).toInt = k + 1 := by rw [ti_add, z1, h5]; omega
    simpa using e
theorem op6_dn {m0 m : am_H} {n a : Nat} {k : Int} (h : stM m0 n (k + 1) m a) (hk : 0 ≤ k ∧ k < 6) : stM m0 n k (am_pI m 0 15 ((m.1 0 15) - 1)) a := by
  obtain ⟨h1, h2, h3, h4, h5⟩ := h
  have z1 : (1 : Int32).toInt = 1 := rfl
  refine ⟨h1.tr (sm.p0 _ _ _ (by simp)), by rw [hI1, if_neg (by simp)]; exact h2, by rw [hI1, if_neg (by simp)]; exact h3, h4, ?_⟩
  rw [hI1, if_pos ⟨rfl, rfl⟩, ti_sub, z1, h5]
  omega
theorem fl_15 {m0 m : am_H} {n a : Nat} (h : flM m0 n m a) (v : Int32) : flM m0 n (am_pI m 0 15 v) a := by
  obtain ⟨h1, h2, b, h3, h4⟩ := h
  exact ⟨h1.tr (sm.p0 _ _ _ (by simp)), by rw [hI1, if_neg (by simp)]; exact h2, b, by rw [hI1, if_neg (by simp)]; exact h3, h4⟩
theorem lv_M {m0 : am_H} {T : Nat → Int32} {n F : Nat} {k : Int} {R : Nat → PR} (hb : byM m0 T n) (hn : n ≤ 120) (h : rdM m0 n k (g_Model_both F).2.2.2.1 R) (hw : wfT n R) : rdM m0 n k (g_Model_both (F + 5)).2.2.1 (lvT (bxT T n) R 5) := by
  have a1 : rdM m0 n k (g_Model_both (F + 1)).2.2.2.2.1 (lvT (bxT T n) R 1) := lvl_product hb hn h hw
  have a2 : rdM m0 n k (g_Model_both (F + 2)).2.2.2.2.2 (lvT (bxT T n) R 2) := lvl_sums hb hn a1 (wf_lv hw 1)
  have a3 : rdM m0 n k (g_Model_both (F + 3)).2.1 (lvT (bxT T n) R 3) := lvl_compared hb hn a2 (wf_lv hw 2)
  have a4 : rdM m0 n k (g_Model_both (F + 4)).1 (lvT (bxT T n) R 4) := lvl_both hb hn a3 (wf_lv hw 3)
  exact lvl_either hb hn a4 (wf_lv hw 4)
theorem op_M {m0 : am_H} {T : Nat → Int32} {n : Nat} (hb : byM m0 T n) (hn : n ≤ 120) : ∀ (j F : Nat) (k : Int), j ≤ 6 → 6 * j + 1 ≤ F → k + j = 6 → rdM m0 n k (g_Model_both F).2.2.2.1 (opT (bxT T n) j) := by
  have z6 : (6 : Int32).toInt = 6 := rfl
  intro j
  induction j with
  | zero =>
    intro F k _ hF hk m a hS
    obtain ⟨F, rfl⟩ : ∃ g, F = g + 1 := ⟨F - 1, by omega⟩
    refine at_M (rc := g_Model_both F) hb hn hS (fun hs => ?_) (fun _ => ⟨rfl, rfl⟩)
    unfold f_Model_one_32
    rw [if_pos (by rw [ti_eq, hS.2.2.2.2]; omega)]
    exact ⟨_, _, rfl, fun q => absurd q (by simp), fun _ => wg_0 hS⟩
  | succ j ih =>
    intro F k hj hF hk m a hS
    obtain ⟨F, rfl⟩ : ∃ g, F = g + 7 := ⟨F - 7, by omega⟩
    refine at_M (rc := g_Model_both (F + 6)) hb hn hS (fun hs => ?_) (fun hs => by rw [if_neg (fun q => hs (Or.inr (Or.inr q))), if_neg (fun q => hs (q.elim Or.inl (fun z => Or.inr (Or.inl z))))]; exact ⟨rfl, rfl⟩)
    have hlt : a < n := bx_lt (fun z => by rw [z] at hs; exact absurd hs (by decide))
    unfold f_Model_one_32
    rw [if_neg (by rw [ti_eq, hS.2.2.2.2]; omega)]
    unfold f_Model_one_46
    have hU := op6_up hS (by omega) hlt hn
    generalize am_pI (am_pI m 0 15 ((m.1 0 15) + 1)) 0 12 (((am_pI m 0 15 ((m.1 0 15) + 1)).1 0 12) + 1) = y at *
    by_cases c : bxT T n a = 40
    · rw [if_pos c, if_pos c]
      have hl := lv_M hb hn (ih (F + 1) (k + 1) (by omega) (by omega) (by omega)) (wf_op j)
      obtain ⟨r1, m1, s1, s2, s3⟩ := hl y (a + 1) hU
      obtain ⟨w1, w2, w3⟩ := wf_lv (T := T) (wf_op (T := T) (n := n) j) 5 (a + 1) (by omega)
      have s1' : (g_Model_both (F + 6)).2.2.1 y = some (r1, m1) := s1
      generalize lvT (bxT T n) (opT (bxT T n) j) 5 (a + 1) = r at *
      unfold f_Model_one_72
      rw [s1', Option.bind_some]
      unfold f_Model_one_76 f_Model_one_83
      rw [if_pos c]
      unfold f_Model_one_90
      cases ok : r.1 with
      | true =>
        rw [if_pos rfl]
        obtain ⟨t1, t2⟩ := s2 ok
        by_cases q : bxT T n r.2.1 = 41
        · have hlt2 : r.2.1 < n := bx_lt (fun z => by rw [z] at q; exact absurd q (by decide))
          rw [if_pos q, tk_1 hb t2 q, Option.bind_some]
          unfold f_Model_one_96
          rw [if_pos rfl]
          unfold f_Model_one_104
          rw [if_pos c]
          exact ⟨r1, _, rfl, fun _ => ⟨t1, op6_dn (ad_M t2 hlt2 hn) (by omega)⟩, fun q => absurd q (by simp)⟩
        · rw [if_neg q, tk_0 hb t2 q, Option.bind_some]
          unfold f_Model_one_96
          rw [if_neg Bool.false_ne_true]
          exact ⟨_, _, rfl, fun q => absurd q (by simp), fun _ => wg_0 t2⟩
      | false =>
        have hF := s3 ok
        rw [if_neg (by decide), tk_F (fl_0 hF), Option.bind_some]
        unfold f_Model_one_96
        rw [if_neg Bool.false_ne_true]
        exact ⟨_, _, rfl, fun q => absurd q (by simp), fun _ => wg_F hF⟩
    · have c2 : bxT T n a = 33 ∨ bxT T n a = 45 := hs.elim Or.inl (fun z => z.elim Or.inr (fun q => absurd q c))
      rw [if_neg c, if_neg c, if_pos c2]
      obtain ⟨r1, m1, s1, s2, s3⟩ := ih (F + 6) (k + 1) (by omega) (by omega) (by omega) y (a + 1) hU
      generalize opT (bxT T n) j (a + 1) = r at *
      unfold f_Model_one_79
      rw [s1, Option.bind_some]
      unfold f_Model_one_83
      rw [if_neg c]
      have h104 : f_Model_one_104 (g_Model_both (F + 6)) m1 (bxT T n a) r1 = some (if bxT T n a = 33 then jnS (-14) r1 0 else -r1, am_pI m1 0 15 ((m1.1 0 15) - 1)) := by
        unfold f_Model_one_104
        rw [if_neg c]
        unfold f_Model_one_124
        by_cases c3 : bxT T n a = 45
        · have n33 : ¬ bxT T n a = 33 := by rw [c3]; decide
          rw [if_pos c3, if_neg n33]; rfl
        · rw [if_neg c3, if_pos (c2.resolve_right c3), jn_eq]
          unfold f_Model_one_135
          by_cases p : r1 = 0
          · rw [if_pos p, if_pos p]; rfl
          · rw [if_neg p, if_neg p]; rfl
      rw [h104]
      cases ok : r.1 with
      | true =>
        rw [if_pos rfl]
        obtain ⟨t1, t2⟩ := s2 ok
        exact ⟨_, _, rfl, fun _ => ⟨by rw [t1], op6_dn t2 (by omega)⟩, fun q => absurd q (by simp)⟩
      | false =>
        rw [if_neg Bool.false_ne_true]
        exact ⟨_, _, rfl, fun q => absurd q (by simp), fun _ => fl_15 (s3 ok) _⟩
theorem ex_M {m0 : am_H} {T : Nat → Int32} {n : Nat} (hb : byM m0 T n) (hn : n ≤ 120) : rdM m0 n 0 f_Model_either (exT (bxT T n)) := by
  have h := lv_M hb hn (op_M hb hn 6 59 0 (by omega) (by omega) (by omega)) (wf_op 6)
  exact h
/-- what a line adds to what is given so far -/
def adT (o : Option Int32) (x3 x4 : Int32) : Int32 × Int32 := match o with
  | some v => if x3 = 0 then (1, v) else (x3, x4)
  | none => (x3, x4)
theorem ln_M {m0 : am_H} {T : Nat → Int32} {n : Nat} (hb : byM m0 T n) (hn : n ≤ 120) {m : am_H} {a : Nat} (hS : stM m0 n 0 m a) (g : Nat) (x3 x4 : Int32) :
    ∃ m1 y3 y4, f_Model_workOut_33_l (g + 1) m x3 x4 1 = f_Model_workOut_96 (f_Model_workOut_33_l g) m1 y3 y4 ∧ ((lnT (bxT T n) (exT (bxT T n)) a).1 = true → stM m0 n 0 m1 (lnT (bxT T n) (exT (bxT T n)) a).2.1 ∧ (y3, y4) = adT ((lnT (bxT T n) (exT (bxT T n)) a).2.2.2 (m0.1 7)) x3 x4) ∧ ((lnT (bxT T n) (exT (bxT T n)) a).1 = false → flM m0 n m1 (lnT (bxT T n) (exT (bxT T n)) a).2.1) := by
  obtain ⟨r1, m1, s1, s2, s3⟩ := ex_M hb hn m a hS
  obtain ⟨w1, w2, w3⟩ := wf_ex (T := T) (n := n) a hS.2.2.2.1
  have n1 : ¬ (1 : Int32) = 0 := by decide
  have hgo : f_Model_workOut_33_l (g + 1) m x3 x4 1 = f_Model_workOut_42 (f_Model_workOut_33_l g) m1 x3 x4 r1 := by
    show f_Model_workOut_33 _ m x3 x4 1 = _
    unfold f_Model_workOut_33
    rw [if_neg n1]
    unfold f_Model_workOut_38
    rw [s1, Option.bind_some]
  rw [hgo]
  unfold f_Model_workOut_42 lnT
  cases ok : (exT (bxT T n) a).1 with
  | true =>
    rw [if_pos rfl]
    obtain ⟨t1, t2⟩ := s2 ok
    by_cases q : bxT T n (exT (bxT T n) a).2.1 = 63
    · rw [if_pos q, tk_1 hb t2 q, Option.bind_some]
      have hlt : (exT (bxT T n) a).2.1 < n := bx_lt (fun z => by rw [z] at q; exact absurd q (by decide))
      obtain ⟨r2, m2, u1, u2, u3⟩ := ex_M hb hn _ _ (ad_M t2 hlt hn)
      unfold f_Model_workOut_53
      rw [if_pos rfl]
      have h56 : f_Model_workOut_56 (f_Model_workOut_33_l g) (am_pI m1 0 12 (m1.1 0 12 + 1)) x3 x4 r1 = f_Model_workOut_74 (f_Model_workOut_33_l g) m2 x3 x4 r2 (if r1 = 0 then 0 else 1) := by
        unfold f_Model_workOut_56
        by_cases p : r1 = 0
        · rw [if_pos p, if_pos p]
          unfold f_Model_workOut_65 f_Model_workOut_66
          rw [u1, Option.bind_some]; rfl
        · rw [if_neg p, if_neg p]
          unfold f_Model_workOut_61 f_Model_workOut_66
          rw [u1, Option.bind_some]; rfl
      rw [h56]
      unfold f_Model_workOut_74
      cases ok2 : (exT (bxT T n) ((exT (bxT T n) a).2.1 + 1)).1 with
      | true =>
        rw [if_pos rfl]
        obtain ⟨v1, v2⟩ := u2 ok2
        rw [if_neg (no_0 v2)]
        unfold f_Model_workOut_81
        by_cases p : r1 = 0
        · rw [if_pos p, if_pos rfl]
          refine ⟨m2, x3, x4, rfl, fun _ => ⟨v2, ?_⟩, fun z => absurd z (by simp)⟩
          simp only []
          rw [if_pos (by rw [← t1]; exact p)]; rfl
        · rw [if_neg p, if_neg n1]
          unfold f_Model_workOut_86
          by_cases p3 : x3 = 0
          · rw [if_pos p3]
            refine ⟨m2, 1, r2, rfl, fun _ => ⟨v2, ?_⟩, fun z => absurd z (by simp)⟩
            simp only []
            rw [if_neg (by rw [← t1]; exact p), ← v1]
            unfold adT; simp only []; rw [if_pos p3]
          · rw [if_neg p3]
            refine ⟨m2, x3, x4, rfl, fun _ => ⟨v2, ?_⟩, fun z => absurd z (by simp)⟩
            simp only []
            rw [if_neg (by rw [← t1]; exact p), ← v1]
            unfold adT; simp only []; rw [if_neg p3]
      | false =>
        rw [if_neg Bool.false_ne_true]
        have hF := u3 ok2
        rw [if_pos (fl_0 hF)]
        exact ⟨m2, x3, x4, rfl, fun z => absurd z (by simp), fun _ => hF⟩
    · rw [if_neg q, tk_0 hb t2 q, Option.bind_some]
      unfold f_Model_workOut_53
      rw [if_neg Bool.false_ne_true]
      unfold f_Model_workOut_74
      rw [if_neg (no_0 t2)]
      unfold f_Model_workOut_81
      rw [if_neg n1]
      unfold f_Model_workOut_86
      by_cases p3 : x3 = 0
      · rw [if_pos p3]
        refine ⟨m1, 1, r1, rfl, fun _ => ⟨t2, ?_⟩, fun z => absurd z (by simp)⟩
        simp only []
        rw [← t1]
        unfold adT; simp only []; rw [if_pos p3]
      · rw [if_neg p3]
        refine ⟨m1, x3, x4, rfl, fun _ => ⟨t2, ?_⟩, fun z => absurd z (by simp)⟩
        simp only []
        rw [← t1]
        unfold adT; simp only []; rw [if_neg p3]
  | false =>
    rw [if_neg (by decide)]
    have hF := s3 ok
    rw [tk_F (fl_0 hF), Option.bind_some]
    unfold f_Model_workOut_53
    rw [if_neg Bool.false_ne_true]
    unfold f_Model_workOut_74
    rw [if_pos (fl_0 hF)]
    exact ⟨m1, x3, x4, rfl, fun z => absurd z (by simp), fun _ => hF⟩
theorem ls_M {m0 : am_H} {T : Nat → Int32} {n : Nat} (hb : byM m0 T n) (hn : n ≤ 120) (h13 : (m0.1 0 13).toInt = n) : ∀ (f fu : Nat) (m : am_H) (a : Nat) (x3 x4 : Int32), f < fu → n < a + f → stM m0 n 0 m a →
    ∃ v m2, f_Model_workOut_33_l fu m x3 x4 1 = some (v, m2) ∧ ((lsT (bxT T n) n (lnT (bxT T n) (exT (bxT T n))) f a).1 = true → v = (if x3 = 0 then ((lsT (bxT T n) n (lnT (bxT T n) (exT (bxT T n))) f a).2.2.2 (m0.1 7)).getD x4 else x4) ∧ sm [12, 14, 15] [] m0 m2 ∧ m2.1 0 14 = -1) ∧ ((lsT (bxT T n) n (lnT (bxT T n) (exT (bxT T n))) f a).1 = false → flM m0 n m2 (lsT (bxT T n) n (lnT (bxT T n) (exT (bxT T n))) f a).2.1) := by
  intro f
  induction f with
  | zero => intro fu m a x3 x4 _ h1 h2; have := h2.2.2.2.1; omega
  | succ f ih =>
    intro fu m a x3 x4 hf h1 hS
    obtain ⟨g, rfl⟩ : ∃ g, fu = g + 2 := ⟨fu - 2, by omega⟩
    obtain ⟨m1, y3, y4, s1, s2, s3⟩ := ln_M hb hn hS (g + 1) x3 x4
    obtain ⟨w1, w2, w3⟩ := wf_ln (T := T) hS.2.2.2.1
    rw [s1]
    unfold f_Model_workOut_96 lsT
    generalize lnT (bxT T n) (exT (bxT T n)) a = r at *
    have hend : ∀ (y : am_H), f_Model_workOut_102 (f_Model_workOut_33_l (g + 1)) y y3 y4 false = f_Model_workOut_107 y y4 := by
      intro y
      unfold f_Model_workOut_102
      show f_Model_workOut_33 _ y y3 y4 (am_b false) = _
      unfold f_Model_workOut_33
      rw [if_pos (show am_b false = 0 from rfl)]
    cases ok : r.1 with
    | true =>
      rw [if_pos rfl]
      obtain ⟨t1, t2⟩ := s2 ok
      have e13 : (m1.1 0 13).toInt = n := by rw [t1.1.1 13 (by simp)]; exact h13
      have hval : ∀ o : Option Int32, (if y3 = 0 then o.getD y4 else y4) = if x3 = 0 then ((r.2.2.2 (m0.1 7)).or o).getD x4 else x4 := by
        intro o
        unfold adT at t2
        cases hv : r.2.2.2 (m0.1 7) with
        | none =>
          rw [hv] at t2
          injection t2 with t3 t4
          rw [t3, t4]; rfl
        | some v =>
          rw [hv] at t2
          simp only [] at t2
          by_cases p : x3 = 0
          · rw [if_pos p] at t2
            injection t2 with t3 t4
            rw [t3, t4, if_pos p, if_neg (by decide)]; rfl
          · rw [if_neg p] at t2
            injection t2 with t3 t4
            rw [t3, t4, if_neg p, if_neg p]
      by_cases e : n ≤ r.2.1
      · rw [if_pos e]
        have ea : r.2.1 = n := by omega
        have q : ¬ bxT T n r.2.1 = 59 := by rw [ea, bx_end (by omega)]; decide
        rw [tk_0 hb t1 q, Option.bind_some, hend]
        unfold f_Model_workOut_107
        rw [if_neg (no_0 t1)]
        unfold f_Model_workOut_114
        rw [if_pos (by rw [ti_le, e13, t1.2.2.1]; omega)]
        refine ⟨y4, m1, rfl, fun _ => ⟨?_, t1.1, t1.2.1⟩, fun z => absurd z (by rw [ok]; simp)⟩
        have := hval none
        rw [Option.or_none] at this
        rw [← this]
        split <;> rfl
      · rw [if_neg e]
        by_cases q : bxT T n r.2.1 = 59
        · rw [if_pos q, tk_1 hb t1 q, Option.bind_some]
          have hlt : r.2.1 < n := by omega
          obtain ⟨w4, w5, w6⟩ := w3 ok
          unfold f_Model_workOut_102
          obtain ⟨v, m2, i1, i2, i3⟩ := ih (g + 1) _ (r.2.1 + 1) y3 y4 (by omega) (by omega) (ad_M t1 hlt hn)
          refine ⟨v, m2, i1, fun z => ?_, i3⟩
          obtain ⟨j1, j2⟩ := i2 z
          exact ⟨by rw [j1, hval], j2⟩
        · rw [if_neg q, tk_0 hb t1 q, Option.bind_some, hend]
          unfold f_Model_workOut_107
          rw [if_neg (no_0 t1)]
          unfold f_Model_workOut_114
          rw [if_neg (by rw [ti_le, e13, t1.2.2.1]; omega)]
          exact ⟨_, _, rfl, fun z => absurd z (by simp), fun _ => wg_0 t1⟩
    | false =>
      rw [if_neg (by decide)]
      have hF := s3 ok
      rw [tk_F (fl_0 hF), Option.bind_some, hend]
      unfold f_Model_workOut_107
      rw [if_pos (fl_0 hF)]
      exact ⟨_, _, rfl, fun z => absurd z (by simp), fun _ => hF⟩
/-- the model works a text out: from the tape, or from the text kept -/
theorem v_Model_workOut {T : Nat → Int32} {n : Nat} {m : am_H} {b N : Int32} (hN : N.toInt = n) (hn : n ≤ 120) (hb : (b = -1 ∧ ∀ a, a < n → m.1 5 a = T a) ∨ (b = 0 ∧ ∀ a, a < n → m.1 6 a = T a)) :
    ∃ v m2, f_Model_workOut m b N = some (v, m2) ∧ sm [11, 12, 13, 14, 15] [] m m2 ∧ ((txT T n).1 = true → v = LV T n (m.1 7) ∧ m2.1 0 14 = -1) ∧ ((txT T n).1 = false → (m2.1 0 14).toInt = ((txT T n).2.1 : Nat)) := by
  have z0 : (0 : Int32).toInt = 0 := rfl
  unfold f_Model_workOut
  have hs0 : sm [11, 12, 13, 14, 15] [] m (am_pI (am_pI (am_pI (am_pI (am_pI m 0 11 b) 0 12 0) 0 13 N) 0 14 (-1)) 0 15 0) :=
    ((((sm.p0 _ _ _ (by simp)).tr (sm.p0 _ _ _ (by simp))).tr (sm.p0 _ _ _ (by simp))).tr (sm.p0 _ _ _ (by simp))).tr (sm.p0 _ _ _ (by simp))
  have e11 : (am_pI (am_pI (am_pI (am_pI (am_pI m 0 11 b) 0 12 0) 0 13 N) 0 14 (-1)) 0 15 0).1 0 11 = b := by simp [hI1]
  have e12 : (am_pI (am_pI (am_pI (am_pI (am_pI m 0 11 b) 0 12 0) 0 13 N) 0 14 (-1)) 0 15 0).1 0 12 = 0 := by simp [hI1]
  have e13 : (am_pI (am_pI (am_pI (am_pI (am_pI m 0 11 b) 0 12 0) 0 13 N) 0 14 (-1)) 0 15 0).1 0 13 = N := by simp [hI1]
  have e14 : (am_pI (am_pI (am_pI (am_pI (am_pI m 0 11 b) 0 12 0) 0 13 N) 0 14 (-1)) 0 15 0).1 0 14 = -1 := by simp [hI1]
  have e15 : (am_pI (am_pI (am_pI (am_pI (am_pI m 0 11 b) 0 12 0) 0 13 N) 0 14 (-1)) 0 15 0).1 0 15 = 0 := by simp [hI1]
  generalize am_pI (am_pI (am_pI (am_pI (am_pI m 0 11 b) 0 12 0) 0 13 N) 0 14 (-1)) 0 15 0 = m0 at *
  have e5 := (hs0.2.2 5 (by decide) (by simp)).1
  have e6 := (hs0.2.2 6 (by decide) (by simp)).1
  have e7 := (hs0.2.2 7 (by decide) (by simp)).1
  have hby : byM m0 T n := by
    intro y a hy ha han
    have f11 : y.1 0 11 = b := by rw [hy.1 11 (by simp)]; exact e11
    have f13 : y.1 0 13 = N := by rw [hy.1 13 (by simp)]; exact e13
    have f5 : y.1 5 = m.1 5 := (hy.2.2 5 (by decide) (by simp)).1.trans e5
    have f6 : y.1 6 = m.1 6 := (hy.2.2 6 (by decide) (by simp)).1.trans e6
    have hq : (y.1 0 12).toNatClampNeg = a := i_nat ha
    unfold f_Model_byteAt
    by_cases hlt : a < n
    · rw [f13, if_neg (by rw [ti_le]; omega)]
      have hbx : bxT T n a = T a := by unfold bxT; rw [if_pos hlt]
      rw [hbx]
      unfold f_Model_byteAt_11
      rw [f11]
      rcases hb with ⟨b1, b2⟩ | ⟨b1, b2⟩
      · rw [b1, if_neg (by decide)]
        unfold f_Model_byteAt_18
        rw [if_pos (ok_of (by omega)), hq, f5, b2 a hlt]
      · rw [b1, if_pos (by decide)]
        unfold f_Model_byteAt_30
        rw [f11, b1, Int32.zero_add, if_pos (ok_of (by omega)), hq, f6, b2 a hlt]
    · rw [f13, if_pos (by rw [ti_le]; omega), bx_end hlt]; rfl
  have hS : stM m0 n 0 m0 0 := ⟨sm.rf _ _ _, e14, by rw [e12]; rfl, Nat.zero_le _, by rw [e15]; rfl⟩
  obtain ⟨v, m2, i1, i2, i3⟩ := ls_M hby hn (by rw [e13]; exact hN) lsF am_fu m0 0 0 0 (by rw [lsF_eq]; unfold am_fu; omega) (by rw [lsF_eq]; omega) hS
  have hsm : ∀ y, sm [12, 14, 15] [] m0 y → sm [11, 12, 13, 14, 15] [] m y := fun y hy => hs0.tr (hy.mono (by simp) (by simp))
  cases ok : (txT T n).1 with
  | true =>
    obtain ⟨j1, j2, j3⟩ := i2 ok
    rw [if_pos rfl, e7] at j1
    exact ⟨v, m2, i1, hsm m2 j2, fun _ => ⟨j1, j3⟩, fun z => absurd z (by simp)⟩
  | false =>
    obtain ⟨j1, j2, j3⟩ := i3 ok
    exact ⟨v, m2, i1, hsm m2 j1, fun z => absurd z (by simp), fun _ => j2⟩
