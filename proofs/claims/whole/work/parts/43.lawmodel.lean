/-! the model reads and works out a text -/
def byM (m0 : am_H) (T : Nat → Int32) (n : Nat) : Prop := ∀ (m : am_H) (a : Nat), sm [12, 14, 15] [] m0 m → (m.1 0 12).toInt = a → a ≤ n → f_Model_byteAt m = some (bxT T n a)
/-- under way, no fault so far -/
def stM (m0 : am_H) (n : Nat) (k : Int) (m : am_H) (a : Nat) : Prop := sm [12, 14, 15] [] m0 m ∧ m.1 0 14 = -1 ∧ (m.1 0 12).toInt = a ∧ a ≤ n ∧ (m.1 0 15).toInt = k
/-- a fault was found -/
def flM (m0 : am_H) (n : Nat) (m : am_H) (a : Nat) : Prop := sm [12, 14, 15] [] m0 m ∧ (m.1 0 14).toInt = a ∧ ∃ b : Nat, (m.1 0 12).toInt = b ∧ b ≤ n
def rdM (m0 : am_H) (n : Nat) (k : Int) (F : am_H → Option (Int32 × am_H)) (R : Nat → PR) : Prop := ∀ (m : am_H) (a : Nat), stM m0 n k m a →
  ∃ v m2, F m = some (v, m2) ∧ ((R a).1 = true → v = (R a).2.2.2 (m0.1 7) ∧ stM m0 n k m2 (R a).2.1) ∧ ((R a).1 = false → flM m0 n m2 (R a).2.1)
theorem no_0 {m0 m : am_H} {n a : Nat} {k : Int} (h : stM m0 n k m a) : ¬ 0 ≤ m.1 0 14 := by rw [h.2.1]; decide
theorem fl_0 {m0 m : am_H} {n a : Nat} (h : flM m0 n m a) : 0 ≤ m.1 0 14 := by
  have z0 : (0 : Int32).toInt = 0 := rfl
  have := h.2.1
  rw [ti_le]; omega
theorem ad_M {m0 m : am_H} {n a : Nat} {k : Int} (h : stM m0 n k m a) (ha : a < n) (hn : n ≤ 120) : stM m0 n k (am_pI m 0 12 (m.1 0 12 + 1)) (a + 1) := by
  obtain ⟨h1, h2, h3, h4, h5⟩ := h
  refine ⟨h1.tr (sm.p0 _ _ _ (by simp)), by rw [hI1, if_neg (by simp)]; exact h2, ?_, ha, by rw [hI1, if_neg (by simp)]; exact h5⟩
  rw [hI1, if_pos ⟨rfl, rfl⟩]
  exact i_next h3 (by omega)
theorem tk_F {m : am_H} (h : 0 ≤ m.1 0 14) (c : Int32) : f_Model_takes m c = some (false, m) := by
  unfold f_Model_takes; rw [if_pos h]; rfl
theorem tk_1 {m0 m : am_H} {T : Nat → Int32} {n a : Nat} {k : Int} (hb : byM m0 T n) (h : stM m0 n k m a) {c : Int32} (e : bxT T n a = c) : f_Model_takes m c = some (true, am_pI m 0 12 (m.1 0 12 + 1)) := by
  unfold f_Model_takes
  rw [if_neg (no_0 h)]
  unfold f_Model_takes_7
  rw [hb m a h.1 h.2.2.1 h.2.2.2.1, Option.bind_some]
  unfold f_Model_takes_11
  rw [if_pos e]; rfl
theorem tk_0 {m0 m : am_H} {T : Nat → Int32} {n a : Nat} {k : Int} (hb : byM m0 T n) (h : stM m0 n k m a) {c : Int32} (e : ¬ bxT T n a = c) : f_Model_takes m c = some (false, m) := by
  unfold f_Model_takes
  rw [if_neg (no_0 h)]
  unfold f_Model_takes_7
  rw [hb m a h.1 h.2.2.1 h.2.2.2.1, Option.bind_some]
  unfold f_Model_takes_11
  rw [if_neg e]; rfl
theorem wg_0 {m0 m : am_H} {n a : Nat} {k : Int} (h : stM m0 n k m a) : flM m0 n (f_Model_wrong m).2 a := by
  obtain ⟨h1, h2, h3, h4, h5⟩ := id h
  have e : (f_Model_wrong m).2 = am_pI m 0 14 (m.1 0 12) := by unfold f_Model_wrong; rw [if_neg (no_0 h)]; rfl
  rw [e]
  exact ⟨h1.tr (sm.p0 _ _ _ (by simp)), by rw [hI1, if_pos ⟨rfl, rfl⟩]; exact h3, a, by rw [hI1, if_neg (by simp)]; exact h3, h4⟩
theorem wg_F {m0 m : am_H} {n a : Nat} (h : flM m0 n m a) : flM m0 n (f_Model_wrong m).2 a := by
  obtain ⟨h1, h2, b, h3, h4⟩ := id h
  have e : (f_Model_wrong m).2 = am_pI m 0 14 (m.1 0 14) := by unfold f_Model_wrong; rw [if_pos (fl_0 h)]; rfl
  rw [e]
  exact ⟨h1.tr (sm.p0 _ _ _ (by simp)), by rw [hI1, if_pos ⟨rfl, rfl⟩]; exact h2, b, by rw [hI1, if_neg (by simp)]; exact h3, h4⟩
/-! joins -/
theorem jn_or (v w : Int32) : jnS (-11) v w = if v = 0 then (if w = 0 then 0 else 1) else 1 := by
  have e : f_Law_join (-11) v w = f_Law_join_56 v w := by unfold f_Law_join; rw [if_neg (by decide), if_neg (by decide), if_neg (by decide), if_neg (by decide), if_neg (by decide), if_neg (by decide), if_neg (by decide), if_neg (by decide), if_neg (by decide), if_pos rfl]
  unfold jnS; rw [e]; unfold f_Law_join_56
  by_cases h : v = 0
  · rw [if_pos h, if_pos h]; unfold f_Law_join_60
    by_cases g : w = 0
    · rw [if_pos g, if_pos g]; rfl
    · rw [if_neg g, if_neg g]; rfl
  · rw [if_neg h, if_neg h]; rfl
theorem jn_and (v w : Int32) : jnS (-12) v w = if v = 0 then 0 else (if w = 0 then 0 else 1) := by
  have e : f_Law_join (-12) v w = f_Law_join_70 v w := by unfold f_Law_join; rw [if_neg (by decide), if_neg (by decide), if_neg (by decide), if_neg (by decide), if_neg (by decide), if_neg (by decide), if_neg (by decide), if_neg (by decide), if_pos rfl]
  unfold jnS; rw [e]; unfold f_Law_join_70
  by_cases h : v = 0
  · rw [if_pos h, if_pos h]; rfl
  · rw [if_neg h, if_neg h]; unfold f_Law_join_74
    by_cases g : w = 0
    · rw [if_pos g, if_pos g]; rfl
    · rw [if_neg g, if_neg g]; rfl
theorem jn_lt (v w : Int32) : jnS (-13) v w = if w ≤ v then 0 else 1 := by
  have e : f_Law_join (-13) v w = f_Law_join_84 v w := by unfold f_Law_join; rw [if_neg (by decide), if_neg (by decide), if_neg (by decide), if_neg (by decide), if_neg (by decide), if_neg (by decide), if_neg (by decide), if_pos rfl]
  unfold jnS; rw [e]; unfold f_Law_join_84
  by_cases h : w ≤ v
  · rw [if_pos h, if_pos h]; rfl
  · rw [if_neg h, if_neg h]; rfl
theorem jn_eq (v w : Int32) : jnS (-14) v w = if v = w then 1 else 0 := by
  have e : f_Law_join (-14) v w = f_Law_join_95 v w := by unfold f_Law_join; rw [if_neg (by decide), if_neg (by decide), if_neg (by decide), if_neg (by decide), if_neg (by decide), if_neg (by decide), if_pos rfl]
  unfold jnS; rw [e]; unfold f_Law_join_95
  by_cases h : v = w
  · rw [if_pos h, if_pos h]; rfl
  · rw [if_neg h, if_neg h]; rfl
theorem jn_gt (v w : Int32) : jnS (-15) v w = if v ≤ w then 0 else 1 := by
  have e : f_Law_join (-15) v w = f_Law_join_106 v w := by unfold f_Law_join; rw [if_neg (by decide), if_neg (by decide), if_neg (by decide), if_neg (by decide), if_neg (by decide), if_pos rfl]
  unfold jnS; rw [e]; unfold f_Law_join_106
  by_cases h : v ≤ w
  · rw [if_pos h, if_pos h]; rfl
  · rw [if_neg h, if_neg h]; rfl
theorem jn_add (v w : Int32) : jnS (-16) v w = v + w := by
  have e : f_Law_join (-16) v w = f_Law_join_117 v w := by unfold f_Law_join; rw [if_neg (by decide), if_neg (by decide), if_neg (by decide), if_neg (by decide), if_pos rfl]
  unfold jnS; rw [e]; unfold f_Law_join_117
  rfl
theorem jn_sub (v w : Int32) : jnS (-17) v w = v - w := by
  have e : f_Law_join (-17) v w = f_Law_join_121 v w := by unfold f_Law_join; rw [if_neg (by decide), if_neg (by decide), if_neg (by decide), if_pos rfl]
  unfold jnS; rw [e]; unfold f_Law_join_121
  rfl
theorem jn_mul (v w : Int32) : jnS (-18) v w = v * w := by
  have e : f_Law_join (-18) v w = f_Law_join_125 v w := by unfold f_Law_join; rw [if_neg (by decide), if_neg (by decide), if_pos rfl]
  unfold jnS; rw [e]; unfold f_Law_join_125
  rfl
theorem jn_div (v w : Int32) : jnS (-19) v w = if w = 0 then 0 else v / w := by
  have e : f_Law_join (-19) v w = f_Law_join_129 v w := by unfold f_Law_join; rw [if_neg (by decide), if_pos rfl]
  unfold jnS; rw [e]; unfold f_Law_join_129
  by_cases h : w = 0
  · rw [if_pos h, if_pos h]; rfl
  · rw [if_neg h, if_neg h]; unfold f_Law_join_137; rw [if_pos h]; rfl
theorem jn_rem (v w : Int32) : jnS (-20) v w = if w = 0 then 0 else v - v / w * w := by
  have e : f_Law_join (-20) v w = f_Law_join_141 v w := by unfold f_Law_join; rw [if_pos rfl]
  unfold jnS; rw [e]; unfold f_Law_join_141
  by_cases h : w = 0
  · rw [if_pos h, if_pos h]; rfl
  · rw [if_neg h, if_neg h]; unfold f_Law_join_149; rw [if_pos h]; rfl
theorem ch_either {m0 : am_H} {T : Nat → Int32} {n : Nat} {k : Int} {rc : rc_Model_both} {R : Nat → PR} (hb : byM m0 T n) (hn : n ≤ 120) (hsub : rdM m0 n k rc.1 R) (hw : wfT n R) : ∀ (f fu : Nat) (m : am_H) (a : Nat) (v : Int32), f < fu → n < a + f → stM m0 n k m a →
    ∃ r m2, f_Model_either_5_l rc fu m v = some (r, m2) ∧ ((chnT (bxT T n) 0 R f a).1 = true → r = (chnT (bxT T n) 0 R f a).2.2.2 (m0.1 7) v ∧ stM m0 n k m2 (chnT (bxT T n) 0 R f a).2.1) ∧ ((chnT (bxT T n) 0 R f a).1 = false → flM m0 n m2 (chnT (bxT T n) 0 R f a).2.1) := by
  intro f
  induction f with
  | zero => intro fu m a v _ h1 h2; have := h2.2.2.2.1; omega
  | succ f ih =>
    intro fu m a v hf h1 hS
    obtain ⟨g, rfl⟩ : ∃ g, fu = g + 2 := ⟨fu - 2, by omega⟩
    unfold chnT
    by_cases e : bxT T n a = 124
    · have ho : f_Law_operatorOf 0 (bxT T n a) = -11 := by rw [opr_0, if_pos e]
      have hlt : a < n := bx_lt (fun q => by rw [q] at e; exact absurd e (by decide))
      rw [ho, if_neg (by decide)]
      obtain ⟨r1, m1, s1, s2, s3⟩ := hsub _ (a + 1) (ad_M hS hlt hn)
      obtain ⟨w1, w2, w3⟩ := hw (a + 1) (by omega)
      have hgo : f_Model_either_5_l rc (g + 2) m v = f_Model_either_5_l rc (g + 1) m1 (jnS (-11) v r1) := by
        show f_Model_either_5 rc _ m v = _
        unfold f_Model_either_5
        rw [tk_1 hb hS e, Option.bind_some]
        unfold f_Model_either_11
        rw [if_pos rfl]
        unfold f_Model_either_14
        rw [s1, Option.bind_some, jn_or]
        unfold f_Model_either_18
        by_cases p : v = 0
        · rw [if_pos p, if_pos p]; unfold f_Model_either_23
          by_cases q : r1 = 0
          · rw [if_pos q, if_pos q]; rfl
          · rw [if_neg q, if_neg q]; rfl
        · rw [if_neg p, if_neg p]; rfl
      rw [hgo]
      cases ok : (R (a + 1)).1 with
      | true =>
        rw [if_pos rfl, if_neg (by decide)]
        obtain ⟨t1, t2⟩ := s2 ok
        obtain ⟨w4, w5, w6⟩ := w3 ok
        obtain ⟨r2, m2, i1, i2, i3⟩ := ih (g + 1) m1 (R (a + 1)).2.1 (jnS (-11) v r1) (by omega) (by omega) t2
        refine ⟨r2, m2, i1, fun q => ?_, i3⟩
        obtain ⟨j1, j2⟩ := i2 q
        exact ⟨by rw [j1, t1], j2⟩
      | false =>
        rw [if_neg (by decide)]
        have hF := s3 ok
        refine ⟨jnS (-11) v r1, m1, ?_, fun q => absurd q (by simp), fun _ => hF⟩
        show f_Model_either_5 rc _ m1 _ = _
        unfold f_Model_either_5
        rw [tk_F (fl_0 hF), Option.bind_some]; rfl
    · have ho : f_Law_operatorOf 0 (bxT T n a) = 0 := by rw [opr_0, if_neg e]
      rw [ho, if_pos rfl]
      refine ⟨v, m, ?_, fun _ => ⟨rfl, hS⟩, fun q => absurd q (by simp)⟩
      show f_Model_either_5 rc _ m v = _
      unfold f_Model_either_5
      rw [tk_0 hb hS e, Option.bind_some]; rfl
theorem ch_both {m0 : am_H} {T : Nat → Int32} {n : Nat} {k : Int} {rc : rc_Model_both} {R : Nat → PR} (hb : byM m0 T n) (hn : n ≤ 120) (hsub : rdM m0 n k rc.2.1 R) (hw : wfT n R) : ∀ (f fu : Nat) (m : am_H) (a : Nat) (v : Int32), f < fu → n < a + f → stM m0 n k m a →
    ∃ r m2, f_Model_both_5_l rc fu m v = some (r, m2) ∧ ((chnT (bxT T n) 1 R f a).1 = true → r = (chnT (bxT T n) 1 R f a).2.2.2 (m0.1 7) v ∧ stM m0 n k m2 (chnT (bxT T n) 1 R f a).2.1) ∧ ((chnT (bxT T n) 1 R f a).1 = false → flM m0 n m2 (chnT (bxT T n) 1 R f a).2.1) := by
  intro f
  induction f with
  | zero => intro fu m a v _ h1 h2; have := h2.2.2.2.1; omega
  | succ f ih =>
    intro fu m a v hf h1 hS
    obtain ⟨g, rfl⟩ : ∃ g, fu = g + 2 := ⟨fu - 2, by omega⟩
    unfold chnT
    by_cases e : bxT T n a = 38
    · have ho : f_Law_operatorOf 1 (bxT T n a) = -12 := by rw [opr_1, if_pos e]
      have hlt : a < n := bx_lt (fun q => by rw [q] at e; exact absurd e (by decide))
      rw [ho, if_neg (by decide)]
      obtain ⟨r1, m1, s1, s2, s3⟩ := hsub _ (a + 1) (ad_M hS hlt hn)
      obtain ⟨w1, w2, w3⟩ := hw (a + 1) (by omega)
      have hgo : f_Model_both_5_l rc (g + 2) m v = f_Model_both_5_l rc (g + 1) m1 (jnS (-12) v r1) := by
        show f_Model_both_5 rc _ m v = _
        unfold f_Model_both_5
        rw [tk_1 hb hS e, Option.bind_some]
        unfold f_Model_both_11
        rw [if_pos rfl]
        unfold f_Model_both_14
        rw [s1, Option.bind_some, jn_and]
        unfold f_Model_both_18
        by_cases p : v = 0
        · rw [if_pos p, if_pos p]; rfl
        · rw [if_neg p, if_neg p]; unfold f_Model_both_23
          by_cases q : r1 = 0
          · rw [if_pos q, if_pos q]; rfl
          · rw [if_neg q, if_neg q]; rfl
      rw [hgo]
      cases ok : (R (a + 1)).1 with
      | true =>
        rw [if_pos rfl, if_neg (by decide)]
        obtain ⟨t1, t2⟩ := s2 ok
        obtain ⟨w4, w5, w6⟩ := w3 ok
        obtain ⟨r2, m2, i1, i2, i3⟩ := ih (g + 1) m1 (R (a + 1)).2.1 (jnS (-12) v r1) (by omega) (by omega) t2
        refine ⟨r2, m2, i1, fun q => ?_, i3⟩
        obtain ⟨j1, j2⟩ := i2 q
        exact ⟨by rw [j1, t1], j2⟩
      | false =>
        rw [if_neg (by decide)]
        have hF := s3 ok
        refine ⟨jnS (-12) v r1, m1, ?_, fun q => absurd q (by simp), fun _ => hF⟩
        show f_Model_both_5 rc _ m1 _ = _
        unfold f_Model_both_5
        rw [tk_F (fl_0 hF), Option.bind_some]; rfl
    · have ho : f_Law_operatorOf 1 (bxT T n a) = 0 := by rw [opr_1, if_neg e]
      rw [ho, if_pos rfl]
      refine ⟨v, m, ?_, fun _ => ⟨rfl, hS⟩, fun q => absurd q (by simp)⟩
      show f_Model_both_5 rc _ m v = _
      unfold f_Model_both_5
      rw [tk_0 hb hS e, Option.bind_some]; rfl
theorem ch_sums {m0 : am_H} {T : Nat → Int32} {n : Nat} {k : Int} {rc : rc_Model_both} {R : Nat → PR} (hb : byM m0 T n) (hn : n ≤ 120) (hsub : rdM m0 n k rc.2.2.2.2.1 R) (hw : wfT n R) : ∀ (f fu : Nat) (m : am_H) (a : Nat) (v : Int32), f < fu → n < a + f → stM m0 n k m a →
    ∃ r m2, f_Model_sums_5_l rc fu m v = some (r, m2) ∧ ((chnT (bxT T n) 3 R f a).1 = true → r = (chnT (bxT T n) 3 R f a).2.2.2 (m0.1 7) v ∧ stM m0 n k m2 (chnT (bxT T n) 3 R f a).2.1) ∧ ((chnT (bxT T n) 3 R f a).1 = false → flM m0 n m2 (chnT (bxT T n) 3 R f a).2.1) := by
  intro f
  induction f with
  | zero => intro fu m a v _ h1 h2; have := h2.2.2.2.1; omega
  | succ f ih =>
    intro fu m a v hf h1 hS
    obtain ⟨g, rfl⟩ : ∃ g, fu = g + 2 := ⟨fu - 2, by omega⟩
    unfold chnT
    have hB := hb m a hS.1 hS.2.2.1 hS.2.2.2.1
    by_cases e1 : bxT T n a = 43
    · have ho : f_Law_operatorOf 3 (bxT T n a) = -16 := by rw [opr_3, if_pos e1]
      have hlt : a < n := bx_lt (fun q => by rw [q] at e1; exact absurd e1 (by decide))
      rw [ho, if_neg (by decide)]
      obtain ⟨r1, m1, s1, s2, s3⟩ := hsub _ (a + 1) (ad_M hS hlt hn)
      obtain ⟨w1, w2, w3⟩ := hw (a + 1) (by omega)
      have hgo : f_Model_sums_5_l rc (g + 2) m v = f_Model_sums_5_l rc (g + 1) m1 (jnS (-16) v r1) := by
        show f_Model_sums_5 rc _ m v = _
        unfold f_Model_sums_5
        rw [if_neg (no_0 hS)]
        unfold f_Model_sums_12
        rw [hB, Option.bind_some]
        unfold f_Model_sums_16
        rw [if_pos e1]
        unfold f_Model_sums_30
        rw [hB, Option.bind_some]
        unfold f_Model_sums_34
        rw [if_pos e1]
        unfold f_Model_sums_39 f_Model_sums_44
        rw [s1, Option.bind_some, jn_add]
        unfold f_Model_sums_59
        rw [if_neg (by decide)]; rfl
      rw [hgo]
      cases ok : (R (a + 1)).1 with
      | true =>
        rw [if_pos rfl, if_neg (by decide)]
        obtain ⟨t1, t2⟩ := s2 ok
        obtain ⟨w4, w5, w6⟩ := w3 ok
        skip
        obtain ⟨r2, m2, i1, i2, i3⟩ := ih (g + 1) m1 (R (a + 1)).2.1 (jnS (-16) v r1) (by omega) (by omega) t2
        refine ⟨r2, m2, i1, fun q => ?_, i3⟩
        obtain ⟨j1, j2⟩ := i2 q
        exact ⟨by rw [j1, t1], j2⟩
      | false =>
        rw [if_neg (by decide)]
        have hF := s3 ok
        refine ⟨jnS (-16) v r1, m1, ?_, fun q => absurd q (by simp), fun _ => hF⟩
        show f_Model_sums_5 rc _ m1 _ = _
        unfold f_Model_sums_5
        rw [if_pos (fl_0 hF)]; rfl
    by_cases e2 : bxT T n a = 45
    · have ho : f_Law_operatorOf 3 (bxT T n a) = -17 := by rw [opr_3, if_neg e1, if_pos e2]
      have hlt : a < n := bx_lt (fun q => by rw [q] at e2; exact absurd e2 (by decide))
      rw [ho, if_neg (by decide)]
      obtain ⟨r1, m1, s1, s2, s3⟩ := hsub _ (a + 1) (ad_M hS hlt hn)
      obtain ⟨w1, w2, w3⟩ := hw (a + 1) (by omega)
      have hgo : f_Model_sums_5_l rc (g + 2) m v = f_Model_sums_5_l rc (g + 1) m1 (jnS (-17) v r1) := by
        show f_Model_sums_5 rc _ m v = _
        unfold f_Model_sums_5
        rw [if_neg (no_0 hS)]
        unfold f_Model_sums_12
        rw [hB, Option.bind_some]
        unfold f_Model_sums_16
        rw [if_neg e1]
        unfold f_Model_sums_21
        rw [hB, Option.bind_some]
        unfold f_Model_sums_25
        rw [if_pos e2]
        unfold f_Model_sums_30
        rw [hB, Option.bind_some]
        unfold f_Model_sums_34
        rw [if_neg e1]
        unfold f_Model_sums_43 f_Model_sums_44
        rw [s1, Option.bind_some, jn_sub]
        unfold f_Model_sums_59
        rw [if_pos rfl]; rfl
      rw [hgo]
      cases ok : (R (a + 1)).1 with
      | true =>
        rw [if_pos rfl, if_neg (by decide)]
        obtain ⟨t1, t2⟩ := s2 ok
        obtain ⟨w4, w5, w6⟩ := w3 ok
        skip
        obtain ⟨r2, m2, i1, i2, i3⟩ := ih (g + 1) m1 (R (a + 1)).2.1 (jnS (-17) v r1) (by omega) (by omega) t2
        refine ⟨r2, m2, i1, fun q => ?_, i3⟩
        obtain ⟨j1, j2⟩ := i2 q
        exact ⟨by rw [j1, t1], j2⟩
      | false =>
        rw [if_neg (by decide)]
        have hF := s3 ok
        refine ⟨jnS (-17) v r1, m1, ?_, fun q => absurd q (by simp), fun _ => hF⟩
        show f_Model_sums_5 rc _ m1 _ = _
        unfold f_Model_sums_5
        rw [if_pos (fl_0 hF)]; rfl
    have ho : f_Law_operatorOf 3 (bxT T n a) = 0 := by rw [opr_3, if_neg e1, if_neg e2]
    rw [ho, if_pos rfl]
    refine ⟨v, m, ?_, fun _ => ⟨rfl, hS⟩, fun q => absurd q (by simp)⟩
    show f_Model_sums_5 rc _ m v = _
    unfold f_Model_sums_5
    rw [if_neg (no_0 hS)]
    unfold f_Model_sums_12
    rw [hB, Option.bind_some]
    unfold f_Model_sums_16
    rw [if_neg e1]
    unfold f_Model_sums_21
    rw [hB, Option.bind_some]
    unfold f_Model_sums_25
    rw [if_neg e2]; rfl
theorem ch_product {m0 : am_H} {T : Nat → Int32} {n : Nat} {k : Int} {rc : rc_Model_both} {R : Nat → PR} (hb : byM m0 T n) (hn : n ≤ 120) (hsub : rdM m0 n k rc.2.2.2.1 R) (hw : wfT n R) : ∀ (f fu : Nat) (m : am_H) (a : Nat) (v : Int32), f < fu → n < a + f → stM m0 n k m a →
    ∃ r m2, f_Model_product_10_l rc fu m v (bxT T n a) = some (r, m2) ∧ ((chnT (bxT T n) 4 R f a).1 = true → r = (chnT (bxT T n) 4 R f a).2.2.2 (m0.1 7) v ∧ stM m0 n k m2 (chnT (bxT T n) 4 R f a).2.1) ∧ ((chnT (bxT T n) 4 R f a).1 = false → flM m0 n m2 (chnT (bxT T n) 4 R f a).2.1) := by
  intro f
  induction f with
  | zero => intro fu m a v _ h1 h2; have := h2.2.2.2.1; omega
  | succ f ih =>
    intro fu m a v hf h1 hS
    obtain ⟨g, rfl⟩ : ∃ g, fu = g + 2 := ⟨fu - 2, by omega⟩
    unfold chnT
    by_cases e1 : bxT T n a = 42
    · have ho : f_Law_operatorOf 4 (bxT T n a) = -18 := by rw [opr_4, if_pos e1]
      have hlt : a < n := bx_lt (fun q => by rw [q] at e1; exact absurd e1 (by decide))
      rw [ho, if_neg (by decide)]
      obtain ⟨r1, m1, s1, s2, s3⟩ := hsub _ (a + 1) (ad_M hS hlt hn)
      obtain ⟨w1, w2, w3⟩ := hw (a + 1) (by omega)
      have hgo : f_Model_product_10_l rc (g + 2) m v (bxT T n a) = f_Model_product_85 rc (f_Model_product_10_l rc (g + 1)) m1 (jnS (-18) v r1) := by
        show f_Model_product_10 rc _ m v (bxT T n a) = _
        unfold f_Model_product_10
        rw [if_neg (no_0 hS)]
        unfold f_Model_product_17
        rw [if_pos e1]
        unfold f_Model_product_35
        rw [s1, Option.bind_some]
        unfold f_Model_product_49
        rw [if_pos e1, jn_mul]; rfl
      rw [hgo]
      cases ok : (R (a + 1)).1 with
      | true =>
        rw [if_pos rfl, if_neg (by decide)]
        obtain ⟨t1, t2⟩ := s2 ok
        obtain ⟨w4, w5, w6⟩ := w3 ok
        unfold f_Model_product_85
        rw [hb m1 _ t2.1 t2.2.2.1 t2.2.2.2.1, Option.bind_some]
        unfold f_Model_product_90
        obtain ⟨r2, m2, i1, i2, i3⟩ := ih (g + 1) m1 (R (a + 1)).2.1 (jnS (-18) v r1) (by omega) (by omega) t2
        refine ⟨r2, m2, i1, fun q => ?_, i3⟩
        obtain ⟨j1, j2⟩ := i2 q
        exact ⟨by rw [j1, t1], j2⟩
      | false =>
        rw [if_neg (by decide)]
        have hF := s3 ok
        refine ⟨jnS (-18) v r1, m1, ?_, fun q => absurd q (by simp), fun _ => hF⟩
        obtain ⟨f1, f2, b, f3, f4⟩ := hF
        unfold f_Model_product_85
        rw [hb m1 b f1 f3 f4, Option.bind_some]
        unfold f_Model_product_90
        show f_Model_product_10 rc _ m1 _ _ = _
        unfold f_Model_product_10
        rw [if_pos (fl_0 ⟨f1, f2, b, f3, f4⟩)]; rfl
    by_cases e2 : bxT T n a = 47
    · have ho : f_Law_operatorOf 4 (bxT T n a) = -19 := by rw [opr_4, if_neg e1, if_pos e2]
      have hlt : a < n := bx_lt (fun q => by rw [q] at e2; exact absurd e2 (by decide))
      rw [ho, if_neg (by decide)]
      obtain ⟨r1, m1, s1, s2, s3⟩ := hsub _ (a + 1) (ad_M hS hlt hn)
      obtain ⟨w1, w2, w3⟩ := hw (a + 1) (by omega)
      have hgo : f_Model_product_10_l rc (g + 2) m v (bxT T n a) = f_Model_product_85 rc (f_Model_product_10_l rc (g + 1)) m1 (jnS (-19) v r1) := by
        show f_Model_product_10 rc _ m v (bxT T n a) = _
        unfold f_Model_product_10
        rw [if_neg (no_0 hS)]
        unfold f_Model_product_17
        rw [if_neg e1]
        unfold f_Model_product_23
        rw [if_pos e2]
        unfold f_Model_product_35
        rw [s1, Option.bind_some]
        unfold f_Model_product_49
        rw [if_neg e1, jn_div]
        unfold f_Model_product_62
        by_cases p : r1 = 0
        · rw [if_pos p, if_pos p]; rfl
        · rw [if_neg p, if_neg p]
          unfold f_Model_product_70
          rw [if_pos e2]
          unfold f_Model_product_76
          rw [if_pos p]
      rw [hgo]
      cases ok : (R (a + 1)).1 with
      | true =>
        rw [if_pos rfl, if_neg (by decide)]
        obtain ⟨t1, t2⟩ := s2 ok
        obtain ⟨w4, w5, w6⟩ := w3 ok
        unfold f_Model_product_85
        rw [hb m1 _ t2.1 t2.2.2.1 t2.2.2.2.1, Option.bind_some]
        unfold f_Model_product_90
        obtain ⟨r2, m2, i1, i2, i3⟩ := ih (g + 1) m1 (R (a + 1)).2.1 (jnS (-19) v r1) (by omega) (by omega) t2
        refine ⟨r2, m2, i1, fun q => ?_, i3⟩
        obtain ⟨j1, j2⟩ := i2 q
        exact ⟨by rw [j1, t1], j2⟩
      | false =>
        rw [if_neg (by decide)]
        have hF := s3 ok
        refine ⟨jnS (-19) v r1, m1, ?_, fun q => absurd q (by simp), fun _ => hF⟩
        obtain ⟨f1, f2, b, f3, f4⟩ := hF
        unfold f_Model_product_85
        rw [hb m1 b f1 f3 f4, Option.bind_some]
        unfold f_Model_product_90
        show f_Model_product_10 rc _ m1 _ _ = _
        unfold f_Model_product_10
        rw [if_pos (fl_0 ⟨f1, f2, b, f3, f4⟩)]; rfl
    by_cases e3 : bxT T n a = 37
    · have ho : f_Law_operatorOf 4 (bxT T n a) = -20 := by rw [opr_4, if_neg e1, if_neg e2, if_pos e3]
      have hlt : a < n := bx_lt (fun q => by rw [q] at e3; exact absurd e3 (by decide))
      rw [ho, if_neg (by decide)]
      obtain ⟨r1, m1, s1, s2, s3⟩ := hsub _ (a + 1) (ad_M hS hlt hn)
      obtain ⟨w1, w2, w3⟩ := hw (a + 1) (by omega)
      have hgo : f_Model_product_10_l rc (g + 2) m v (bxT T n a) = f_Model_product_85 rc (f_Model_product_10_l rc (g + 1)) m1 (jnS (-20) v r1) := by
        show f_Model_product_10 rc _ m v (bxT T n a) = _
        unfold f_Model_product_10
        rw [if_neg (no_0 hS)]
        unfold f_Model_product_17
        rw [if_neg e1]
        unfold f_Model_product_23
        rw [if_neg e2]
        unfold f_Model_product_29
        rw [if_pos e3]
        unfold f_Model_product_35
        rw [s1, Option.bind_some]
        unfold f_Model_product_49
        rw [if_neg e1, jn_rem]
        unfold f_Model_product_62
        by_cases p : r1 = 0
        · rw [if_pos p, if_pos p]; rfl
        · rw [if_neg p, if_neg p]
          unfold f_Model_product_70
          rw [if_neg e2]
          unfold f_Model_product_82
          rw [if_pos p]
      rw [hgo]
      cases ok : (R (a + 1)).1 with
      | true =>
        rw [if_pos rfl, if_neg (by decide)]
        obtain ⟨t1, t2⟩ := s2 ok
        obtain ⟨w4, w5, w6⟩ := w3 ok
        unfold f_Model_product_85
        rw [hb m1 _ t2.1 t2.2.2.1 t2.2.2.2.1, Option.bind_some]
        unfold f_Model_product_90
        obtain ⟨r2, m2, i1, i2, i3⟩ := ih (g + 1) m1 (R (a + 1)).2.1 (jnS (-20) v r1) (by omega) (by omega) t2
        refine ⟨r2, m2, i1, fun q => ?_, i3⟩
        obtain ⟨j1, j2⟩ := i2 q
        exact ⟨by rw [j1, t1], j2⟩
      | false =>
        rw [if_neg (by decide)]
        have hF := s3 ok
        refine ⟨jnS (-20) v r1, m1, ?_, fun q => absurd q (by simp), fun _ => hF⟩
        obtain ⟨f1, f2, b, f3, f4⟩ := hF
        unfold f_Model_product_85
        rw [hb m1 b f1 f3 f4, Option.bind_some]
        unfold f_Model_product_90
        show f_Model_product_10 rc _ m1 _ _ = _
        unfold f_Model_product_10
        rw [if_pos (fl_0 ⟨f1, f2, b, f3, f4⟩)]; rfl
    have ho : f_Law_operatorOf 4 (bxT T n a) = 0 := by rw [opr_4, if_neg e1, if_neg e2, if_neg e3]
    rw [ho, if_pos rfl]
    refine ⟨v, m, ?_, fun _ => ⟨rfl, hS⟩, fun q => absurd q (by simp)⟩
    show f_Model_product_10 rc _ m v (bxT T n a) = _
    unfold f_Model_product_10
    rw [if_neg (no_0 hS)]
    unfold f_Model_product_17
    rw [if_neg e1]
    unfold f_Model_product_23
    rw [if_neg e2]
    unfold f_Model_product_29
    rw [if_neg e3]; rfl
theorem lvl_either {m0 : am_H} {T : Nat → Int32} {n : Nat} {k : Int} {rc : rc_Model_both} {R : Nat → PR} (hb : byM m0 T n) (hn : n ≤ 120) (hsub : rdM m0 n k rc.1 R) (hw : wfT n R) : rdM m0 n k (f_Model_either_0 rc) (upT (bxT T n) 0 R) := by
  intro m a hS
  obtain ⟨v, m1, s1, s2, s3⟩ := hsub m a hS
  obtain ⟨w1, w2, w3⟩ := hw a hS.2.2.2.1
  unfold f_Model_either_0 upT
  rw [s1, Option.bind_some]
  cases ok : (R a).1 with
  | true =>
    rw [if_pos rfl]
    obtain ⟨t1, t2⟩ := s2 ok
    obtain ⟨w4, w5, w6⟩ := w3 ok
    unfold f_Model_either_4
    obtain ⟨r2, m2, i1, i2, i3⟩ := ch_either hb hn hsub hw 120 am_fu m1 (R a).2.1 v (by unfold am_fu; omega) (by omega) t2
    refine ⟨r2, m2, i1, fun q => ?_, i3⟩
    obtain ⟨j1, j2⟩ := i2 q
    exact ⟨by rw [j1, t1], j2⟩
  | false =>
    rw [if_neg (by decide)]
    have hF := s3 ok
    refine ⟨v, m1, ?_, fun q => absurd q (by simp), fun _ => hF⟩
    unfold f_Model_either_4
    show f_Model_either_5 rc (f_Model_either_5_l rc 4999) m1 v = _
    unfold f_Model_either_5
    rw [tk_F (fl_0 hF), Option.bind_some]; rfl
theorem lvl_both {m0 : am_H} {T : Nat → Int32} {n : Nat} {k : Int} {rc : rc_Model_both} {R : Nat → PR} (hb : byM m0 T n) (hn : n ≤ 120) (hsub : rdM m0 n k rc.2.1 R) (hw : wfT n R) : rdM m0 n k (f_Model_both_0 rc) (upT (bxT T n) 1 R) := by
  intro m a hS
  obtain ⟨v, m1, s1, s2, s3⟩ := hsub m a hS
  obtain ⟨w1, w2, w3⟩ := hw a hS.2.2.2.1
  unfold f_Model_both_0 upT
  rw [s1, Option.bind_some]
  cases ok : (R a).1 with
  | true =>
    rw [if_pos rfl]
    obtain ⟨t1, t2⟩ := s2 ok
    obtain ⟨w4, w5, w6⟩ := w3 ok
    unfold f_Model_both_4
    obtain ⟨r2, m2, i1, i2, i3⟩ := ch_both hb hn hsub hw 120 am_fu m1 (R a).2.1 v (by unfold am_fu; omega) (by omega) t2
    refine ⟨r2, m2, i1, fun q => ?_, i3⟩
    obtain ⟨j1, j2⟩ := i2 q
    exact ⟨by rw [j1, t1], j2⟩
  | false =>
    rw [if_neg (by decide)]
    have hF := s3 ok
    refine ⟨v, m1, ?_, fun q => absurd q (by simp), fun _ => hF⟩
    unfold f_Model_both_4
    show f_Model_both_5 rc (f_Model_both_5_l rc 4999) m1 v = _
    unfold f_Model_both_5
    rw [tk_F (fl_0 hF), Option.bind_some]; rfl
theorem lvl_sums {m0 : am_H} {T : Nat → Int32} {n : Nat} {k : Int} {rc : rc_Model_both} {R : Nat → PR} (hb : byM m0 T n) (hn : n ≤ 120) (hsub : rdM m0 n k rc.2.2.2.2.1 R) (hw : wfT n R) : rdM m0 n k (f_Model_sums_0 rc) (upT (bxT T n) 3 R) := by
  intro m a hS
  obtain ⟨v, m1, s1, s2, s3⟩ := hsub m a hS
  obtain ⟨w1, w2, w3⟩ := hw a hS.2.2.2.1
  unfold f_Model_sums_0 upT
  rw [s1, Option.bind_some]
  cases ok : (R a).1 with
  | true =>
    rw [if_pos rfl]
    obtain ⟨t1, t2⟩ := s2 ok
    obtain ⟨w4, w5, w6⟩ := w3 ok
    unfold f_Model_sums_4
    obtain ⟨r2, m2, i1, i2, i3⟩ := ch_sums hb hn hsub hw 120 am_fu m1 (R a).2.1 v (by unfold am_fu; omega) (by omega) t2
    refine ⟨r2, m2, i1, fun q => ?_, i3⟩
    obtain ⟨j1, j2⟩ := i2 q
    exact ⟨by rw [j1, t1], j2⟩
  | false =>
    rw [if_neg (by decide)]
    have hF := s3 ok
    refine ⟨v, m1, ?_, fun q => absurd q (by simp), fun _ => hF⟩
    unfold f_Model_sums_4
    show f_Model_sums_5 rc (f_Model_sums_5_l rc 4999) m1 v = _
    unfold f_Model_sums_5
    rw [if_pos (fl_0 hF)]; rfl
theorem lvl_product {m0 : am_H} {T : Nat → Int32} {n : Nat} {k : Int} {rc : rc_Model_both} {R : Nat → PR} (hb : byM m0 T n) (hn : n ≤ 120) (hsub : rdM m0 n k rc.2.2.2.1 R) (hw : wfT n R) : rdM m0 n k (f_Model_product_0 rc) (upT (bxT T n) 4 R) := by
  intro m a hS
  obtain ⟨v, m1, s1, s2, s3⟩ := hsub m a hS
  obtain ⟨w1, w2, w3⟩ := hw a hS.2.2.2.1
  unfold f_Model_product_0 upT
  rw [s1, Option.bind_some]
  cases ok : (R a).1 with
  | true =>
    rw [if_pos rfl]
    obtain ⟨t1, t2⟩ := s2 ok
    obtain ⟨w4, w5, w6⟩ := w3 ok
    unfold f_Model_product_4
    rw [hb m1 _ t2.1 t2.2.2.1 t2.2.2.2.1, Option.bind_some]
    unfold f_Model_product_9
    obtain ⟨r2, m2, i1, i2, i3⟩ := ch_product hb hn hsub hw 120 am_fu m1 (R a).2.1 v (by unfold am_fu; omega) (by omega) t2
    refine ⟨r2, m2, i1, fun q => ?_, i3⟩
    obtain ⟨j1, j2⟩ := i2 q
    exact ⟨by rw [j1, t1], j2⟩
  | false =>
    rw [if_neg (by decide)]
    have hF := s3 ok
    refine ⟨v, m1, ?_, fun q => absurd q (by simp), fun _ => hF⟩
    obtain ⟨f1, f2, b, f3, f4⟩ := hF
    unfold f_Model_product_4
    rw [hb m1 b f1 f3 f4, Option.bind_some]
    unfold f_Model_product_9
    show f_Model_product_10 rc (f_Model_product_10_l rc 4999) m1 v _ = _
    unfold f_Model_product_10
    rw [if_pos (fl_0 ⟨f1, f2, b, f3, f4⟩)]; rfl
theorem lvl_compared {m0 : am_H} {T : Nat → Int32} {n : Nat} {k : Int} {rc : rc_Model_both} {R : Nat → PR} (hb : byM m0 T n) (hn : n ≤ 120) (hsub : rdM m0 n k rc.2.2.2.2.2 R) (hw : wfT n R) : rdM m0 n k (f_Model_compared_0 rc) (upT (bxT T n) 2 R) := by
  intro m a hS
  obtain ⟨v, m1, s1, s2, s3⟩ := hsub m a hS
  obtain ⟨w1, w2, w3⟩ := hw a hS.2.2.2.1
  have h120 : (120 : Nat) = 119 + 1 := rfl
  unfold f_Model_compared_0 upT
  rw [s1, Option.bind_some]
  unfold f_Model_compared_4
  cases ok : (R a).1 with
  | true =>
    rw [if_pos rfl]
    obtain ⟨t1, t2⟩ := s2 ok
    obtain ⟨w4, w5, w6⟩ := w3 ok
    rw [hb m1 _ t2.1 t2.2.2.1 t2.2.2.2.1, Option.bind_some]
    by_cases e1 : bxT T n (R a).2.1 = 60
    · have ho : f_Law_operatorOf 2 (bxT T n (R a).2.1) = -13 := by rw [opr_2, if_pos e1]
      have hlt : (R a).2.1 < n := bx_lt (fun q => by rw [q] at e1; exact absurd e1 (by decide))
      obtain ⟨r1, m2, u1, u2, u3⟩ := hsub _ ((R a).2.1 + 1) (ad_M t2 hlt hn)
      have hgo : f_Model_compared_9 rc m1 v (bxT T n (R a).2.1) = some (jnS (-13) v r1, m2) := by
        unfold f_Model_compared_9
        rw [if_neg (no_0 t2)]
        unfold f_Model_compared_17
        rw [if_pos e1]
        unfold f_Model_compared_37
        rw [u1, Option.bind_some]
        unfold f_Model_compared_51
        rw [if_pos e1, jn_lt]
        unfold f_Model_compared_58
        by_cases p : r1 ≤ v
        · rw [if_pos p, if_pos p]; rfl
        · rw [if_neg p, if_neg p]; rfl
      rw [hgo, h120]
      unfold chnT
      rw [ho, if_neg (by decide)]
      cases ok2 : (R ((R a).2.1 + 1)).1 with
      | true =>
        rw [if_pos rfl, if_pos rfl]
        obtain ⟨x1, x2⟩ := u2 ok2
        exact ⟨_, m2, rfl, fun _ => ⟨by rw [x1, t1], x2⟩, fun q => absurd q (by simp)⟩
      | false =>
        rw [if_neg (by decide)]
        exact ⟨_, m2, rfl, fun q => absurd q (by simp), fun _ => u3 ok2⟩
    by_cases e2 : bxT T n (R a).2.1 = 61
    · have ho : f_Law_operatorOf 2 (bxT T n (R a).2.1) = -14 := by rw [opr_2, if_neg e1, if_pos e2]
      have hlt : (R a).2.1 < n := bx_lt (fun q => by rw [q] at e2; exact absurd e2 (by decide))
      obtain ⟨r1, m2, u1, u2, u3⟩ := hsub _ ((R a).2.1 + 1) (ad_M t2 hlt hn)
      have hgo : f_Model_compared_9 rc m1 v (bxT T n (R a).2.1) = some (jnS (-14) v r1, m2) := by
        unfold f_Model_compared_9
        rw [if_neg (no_0 t2)]
        unfold f_Model_compared_17
        rw [if_neg e1]
        unfold f_Model_compared_23
        rw [if_pos e2]
        unfold f_Model_compared_37
        rw [u1, Option.bind_some]
        unfold f_Model_compared_51
        rw [if_neg e1, jn_eq]
        unfold f_Model_compared_66
        rw [if_pos e2]
        unfold f_Model_compared_72
        by_cases p : v = r1
        · rw [if_pos p, if_pos p]; rfl
        · rw [if_neg p, if_neg p]; rfl
      rw [hgo, h120]
      unfold chnT
      rw [ho, if_neg (by decide)]
      cases ok2 : (R ((R a).2.1 + 1)).1 with
      | true =>
        rw [if_pos rfl, if_pos rfl]
        obtain ⟨x1, x2⟩ := u2 ok2
        exact ⟨_, m2, rfl, fun _ => ⟨by rw [x1, t1], x2⟩, fun q => absurd q (by simp)⟩
      | false =>
        rw [if_neg (by decide)]
        exact ⟨_, m2, rfl, fun q => absurd q (by simp), fun _ => u3 ok2⟩
    by_cases e3 : bxT T n (R a).2.1 = 62
    · have ho : f_Law_operatorOf 2 (bxT T n (R a).2.1) = -15 := by rw [opr_2, if_neg e1, if_neg e2, if_pos e3]
      have hlt : (R a).2.1 < n := bx_lt (fun q => by rw [q] at e3; exact absurd e3 (by decide))
      obtain ⟨r1, m2, u1, u2, u3⟩ := hsub _ ((R a).2.1 + 1) (ad_M t2 hlt hn)
      have hgo : f_Model_compared_9 rc m1 v (bxT T n (R a).2.1) = some (jnS (-15) v r1, m2) := by
        unfold f_Model_compared_9
        rw [if_neg (no_0 t2)]
        unfold f_Model_compared_17
        rw [if_neg e1]
        unfold f_Model_compared_23
        rw [if_neg e2]
        unfold f_Model_compared_29
        rw [if_pos e3]
        unfold f_Model_compared_37
        rw [u1, Option.bind_some]
        unfold f_Model_compared_51
        rw [if_neg e1, jn_gt]
        unfold f_Model_compared_66
        rw [if_neg e2]
        unfold f_Model_compared_80
        by_cases p : v ≤ r1
        · rw [if_pos p, if_pos p]; rfl
        · rw [if_neg p, if_neg p]; rfl
      rw [hgo, h120]
      unfold chnT
      rw [ho, if_neg (by decide)]
      cases ok2 : (R ((R a).2.1 + 1)).1 with
      | true =>
        rw [if_pos rfl, if_pos rfl]
        obtain ⟨x1, x2⟩ := u2 ok2
        exact ⟨_, m2, rfl, fun _ => ⟨by rw [x1, t1], x2⟩, fun q => absurd q (by simp)⟩
      | false =>
        rw [if_neg (by decide)]
        exact ⟨_, m2, rfl, fun q => absurd q (by simp), fun _ => u3 ok2⟩
    have ho : f_Law_operatorOf 2 (bxT T n (R a).2.1) = 0 := by rw [opr_2, if_neg e1, if_neg e2, if_neg e3]
    have hgo : f_Model_compared_9 rc m1 v (bxT T n (R a).2.1) = some (v, m1) := by
      unfold f_Model_compared_9
      rw [if_neg (no_0 t2)]
      unfold f_Model_compared_17
      rw [if_neg e1]
      unfold f_Model_compared_23
      rw [if_neg e2]
      unfold f_Model_compared_29
      rw [if_neg e3]; rfl
    rw [hgo, h120]
    unfold chnT
    rw [ho, if_pos rfl]
    exact ⟨v, m1, rfl, fun _ => ⟨t1, t2⟩, fun q => absurd q (by simp)⟩
  | false =>
    rw [if_neg (by decide)]
    have hF := s3 ok
    obtain ⟨f1, f2, b, f3, f4⟩ := id hF
    refine ⟨v, m1, ?_, fun q => absurd q (by simp), fun _ => hF⟩
    rw [hb m1 b f1 f3 f4, Option.bind_some]
    unfold f_Model_compared_9
    rw [if_pos (fl_0 hF)]; rfl
