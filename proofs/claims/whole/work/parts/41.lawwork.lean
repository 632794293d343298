/-! the class works a text's steps out -/
theorem ws_47 {x : am_H} {I : Int32} {i : Nat} (hI : I.toInt = i) (h1 : (i : Int) < (x.1 6 8).toInt) (h2 : (x.1 6 8).toInt ≤ 130) (f : Nat) (P p : Int32) : f_Law_workOut_6_l (f + 1) x P p I = if x.1 9 i = -32 then f_Law_workOut_36 (f_Law_workOut_6_l f) x P p I (x.1 9 i) else f_Law_workOut_47 (f_Law_workOut_6_l f) x P p I (x.1 9 i) := by
  have z130 : (130 : Int32).toInt = 130 := rfl
  have q : I.toNatClampNeg = i := by rw [ti_nat]; omega
  show f_Law_workOut_6 _ x P p I = _
  unfold f_Law_workOut_6
  rw [if_neg (by rw [ti_le]; omega)]
  unfold f_Law_workOut_14
  rw [if_neg (by rw [ti_le]; omega)]
  unfold f_Law_workOut_21
  rw [if_pos (ok_of (by omega)), q]
theorem ws_92 {x : am_H} {I : Int32} {i : Nat} (hI : I.toInt = i) (h1 : (i : Int) < (x.1 6 8).toInt) (h2 : (x.1 6 8).toInt ≤ 130) (f : Nat) (P : Int32) {s : Int32} (hs : x.1 9 i = s) (hb : -31 < s.toInt) : f_Law_workOut_6_l (f + 1) x P 0 I = f_Law_workOut_96 (f_Law_workOut_6_l f) x P 0 I s := by
  have z32 : (-32 : Int32).toInt = -32 := rfl
  have z31 : (-31 : Int32).toInt = -31 := rfl
  have n32 : ¬ s = -32 := by rw [ti_eq]; omega
  have n31 : ¬ s = -31 := by rw [ti_eq]; omega
  rw [ws_47 hI h1 h2, hs, if_neg n32]
  unfold f_Law_workOut_47
  rw [if_neg n32]
  unfold f_Law_workOut_61
  rw [if_neg n31]
  unfold f_Law_workOut_92
  rw [if_pos rfl]
theorem ws_push {x : am_H} {I P : Int32} {i t : Nat} (hI : I.toInt = i) (h1 : (i : Int) < (x.1 6 8).toInt) (h2 : (x.1 6 8).toInt ≤ 130) (hP : P.toInt = t) (ht : t < 130) (f : Nat) {s v : Int32} (hs : x.1 9 i = s) (hb : -11 < s.toInt) (hv : f_Law_valueOf x s = some v) : f_Law_workOut_6_l (f + 1) x P 0 I = f_Law_workOut_6_l f (am_pI x 10 t v) (P + 1) 0 (I + 1) := by
  have z11 : (-11 : Int32).toInt = -11 := rfl
  have z0 : (0 : Int32).toInt = 0 := rfl
  have z130 : (130 : Int32).toInt = 130 := rfl
  have q : P.toNatClampNeg = t := by rw [ti_nat]; omega
  rw [ws_92 hI h1 h2 f P hs (by omega)]
  unfold f_Law_workOut_96
  rw [if_neg (by rw [ti_le]; omega)]
  unfold f_Law_workOut_103
  rw [if_neg (by rw [ti_lt]; omega)]
  unfold f_Law_workOut_107
  rw [if_neg (by rw [ti_le]; omega)]
  unfold f_Law_workOut_114
  rw [hv, Option.bind_some]
  unfold f_Law_workOut_125
  rw [if_pos (ok_of (by omega)), q]
  unfold f_Law_workOut_245
  with_reducible rfl
theorem i_next {I : Int32} {i : Nat} (hI : I.toInt = i) (h : i < 1000) : (I + 1).toInt = (i + 1 : Nat) := by
  have z1 : (1 : Int32).toInt = 1 := rfl
  have e := ti_add I 1
  rw [z1] at e
  omega
theorem i_prev {P : Int32} {t : Nat} (h : P.toInt = (t + 1 : Nat)) (ht : t < 1000) : (P - 1).toInt = t := by
  have z1 : (1 : Int32).toInt = 1 := rfl
  have e := ti_sub P 1
  rw [z1] at e
  omega
theorem i_m1 {P : Int32} {t : Nat} (h : P.toInt = (t + 1 : Nat)) (ht : t < 1000) : (P + -1).toInt = t := by
  have z1 : (-1 : Int32).toInt = -1 := rfl
  have e := ti_add P (-1)
  rw [z1] at e
  omega
theorem i_nat {P : Int32} {t : Nat} (h : P.toInt = t) : P.toNatClampNeg = t := by rw [ti_nat, h]; rfl
theorem ws_bin {x : am_H} {I P P1 : Int32} {i t : Nat} (hP1 : P + -1 = P1) (hI : I.toInt = i) (h1 : (i : Int) < (x.1 6 8).toInt) (h2 : (x.1 6 8).toInt ≤ 130) (hP : P.toInt = (t + 2 : Nat)) (ht : t + 2 ≤ 130) (f : Nat) {s : Int32} (hs : x.1 9 i = s) (hb : -20 ≤ s.toInt ∧ s.toInt ≤ -11) : f_Law_workOut_6_l (f + 1) x P 0 I = f_Law_workOut_6_l f (am_pI x 10 t (jnS s (x.1 10 t) (x.1 10 (t + 1)))) P1 0 (I + 1) := by
  have z11 : (-11 : Int32).toInt = -11 := rfl
  have z20 : (-20 : Int32).toInt = -20 := rfl
  have z2 : (2 : Int32).toInt = 2 := rfl
  have z130 : (130 : Int32).toInt = 130 := rfl
  have h9 : t + 1 < 1000 := by omega
  have h8 : t < 1000 := by omega
  have a2 : P1.toInt = (t + 1 : Nat) := by rw [← hP1]; exact i_m1 hP h9
  obtain ⟨P2, e2⟩ : ∃ q, P1 - 1 = q := ⟨_, rfl⟩
  have a4 : P2.toInt = t := by rw [← e2]; exact i_prev a2 h8
  have q1 := i_nat a2
  have q2 := i_nat a4
  rw [ws_92 hI h1 h2 f P hs (by omega)]
  unfold f_Law_workOut_96
  rw [if_pos (by rw [ti_le]; omega)]
  unfold f_Law_workOut_132
  rw [if_pos rfl]
  unfold f_Law_workOut_136
  rw [if_neg (by rw [ti_lt]; omega)]
  unfold f_Law_workOut_143
  rw [if_neg (by rw [ti_lt]; omega)]
  unfold f_Law_workOut_148
  rw [if_neg (by rw [ti_lt]; omega)]
  unfold f_Law_workOut_155
  rw [hP1, e2, if_pos (ok_of (by omega)), if_pos (ok_of (by omega)), q1, q2, jnS_eq, Option.bind_some]
  unfold f_Law_workOut_184
  rw [if_pos (ok_of (by omega)), q2]
  unfold f_Law_workOut_245
  with_reducible rfl
theorem ws_un {x : am_H} {I P : Int32} {i t : Nat} (hI : I.toInt = i) (h1 : (i : Int) < (x.1 6 8).toInt) (h2 : (x.1 6 8).toInt ≤ 130) (hP : P.toInt = (t + 1 : Nat)) (ht : t + 1 ≤ 130) (f : Nat) {s : Int32} (hs : x.1 9 i = s) (hb : s = -21 ∨ s = -22) : f_Law_workOut_6_l (f + 1) x P 0 I = f_Law_workOut_6_l f (am_pI x 10 t (if s = -21 then jnS (-14) (x.1 10 t) 0 else -(x.1 10 t))) P 0 (I + 1) := by
  have z11 : (-11 : Int32).toInt = -11 := rfl
  have z20 : (-20 : Int32).toInt = -20 := rfl
  have z1 : (1 : Int32).toInt = 1 := rfl
  have z130 : (130 : Int32).toInt = 130 := rfl
  have hs2 : s.toInt = -21 ∨ s.toInt = -22 := by
    rcases hb with h | h
    · left; rw [h]; rfl
    · right; rw [h]; rfl
  have h9 : t < 1000 := by omega
  obtain ⟨P2, e2⟩ : ∃ q, P - 1 = q := ⟨_, rfl⟩
  have a4 : P2.toInt = t := by rw [← e2]; exact i_prev hP h9
  have q2 := i_nat a4
  rw [ws_92 hI h1 h2 f P hs (by omega)]
  unfold f_Law_workOut_96
  rw [if_pos (by rw [ti_le]; omega)]
  unfold f_Law_workOut_132
  rw [if_pos rfl]
  unfold f_Law_workOut_136
  rw [if_pos (by rw [ti_lt]; omega)]
  unfold f_Law_workOut_188
  rw [if_pos rfl]
  unfold f_Law_workOut_192
  rw [if_neg (by rw [ti_lt]; omega)]
  unfold f_Law_workOut_197
  rw [if_neg (by rw [ti_lt]; omega)]
  unfold f_Law_workOut_204
  rcases hb with h | h
  · rw [if_pos h, if_pos h]
    unfold f_Law_workOut_218
    rw [e2, if_pos (ok_of (by omega)), q2, jnS_eq, Option.bind_some]
    unfold f_Law_workOut_232 f_Law_workOut_244
    rw [if_pos (ok_of (by omega)), q2]
    unfold f_Law_workOut_245
    with_reducible rfl
  · have n : ¬ s = -21 := by rw [h]; decide
    rw [if_neg n, if_neg n]
    unfold f_Law_workOut_235
    rw [e2, if_pos (ok_of (by omega)), q2]
    unfold f_Law_workOut_244
    rw [if_pos (ok_of (by omega)), q2]
    unfold f_Law_workOut_245
    with_reducible rfl
theorem ws_skip {x : am_H} {I P : Int32} {i : Nat} (hI : I.toInt = i) (h1 : (i : Int) < (x.1 6 8).toInt) (h2 : (x.1 6 8).toInt ≤ 130) (f : Nat) (hs : ¬ x.1 9 i = -32) : f_Law_workOut_6_l (f + 1) x P 1 I = f_Law_workOut_6_l f x P 1 (I + 1) := by
  have n1 : ¬ (1 : Int32) = 0 := by decide
  rw [ws_47 hI h1 h2, if_neg hs]
  unfold f_Law_workOut_47
  rw [if_neg hs]
  have h92 : f_Law_workOut_92 (f_Law_workOut_6_l f) x P 1 I (x.1 9 i) = f_Law_workOut_6_l f x P 1 (I + 1) := by
    unfold f_Law_workOut_92
    rw [if_neg n1]
    unfold f_Law_workOut_132
    rw [if_neg n1]
    unfold f_Law_workOut_188
    rw [if_neg n1]
    rfl
  unfold f_Law_workOut_61
  by_cases e : x.1 9 i = -31
  · rw [if_pos e]
    unfold f_Law_workOut_68
    rw [if_neg n1]; exact h92
  · rw [if_neg e]; exact h92
theorem ws_if {x : am_H} {I P : Int32} {i : Nat} (hI : I.toInt = i) (h1 : (i : Int) < (x.1 6 8).toInt) (h2 : (x.1 6 8).toInt ≤ 130) (f : Nat) (hs : x.1 9 i = -31) : f_Law_workOut_6_l (f + 1) x P 0 I = f_Law_workOut_6_l f x 0 (if x.1 10 0 = 0 then 1 else 0) (I + 1) := by
  have n32 : ¬ (-31 : Int32) = -32 := by decide
  rw [ws_47 hI h1 h2, hs, if_neg n32]
  unfold f_Law_workOut_47
  rw [if_neg n32]
  unfold f_Law_workOut_61
  rw [if_pos rfl]
  unfold f_Law_workOut_68
  rw [if_pos rfl]
  unfold f_Law_workOut_72
  rw [nl_0]
  by_cases e : x.1 10 0 = 0
  · rw [if_pos e, if_pos e]; rfl
  · rw [if_neg e, if_neg e]; rfl
theorem ws_end0 {x : am_H} {I P : Int32} {i : Nat} (hI : I.toInt = i) (h1 : (i : Int) < (x.1 6 8).toInt) (h2 : (x.1 6 8).toInt ≤ 130) (f : Nat) (hs : x.1 9 i = -32) : f_Law_workOut_6_l (f + 1) x P 0 I = some (x.1 10 0, x) := by
  rw [ws_47 hI h1 h2, hs, if_pos rfl]
  unfold f_Law_workOut_36
  rw [if_pos rfl]
  rfl
theorem ws_end1 {x : am_H} {I P : Int32} {i : Nat} (hI : I.toInt = i) (h1 : (i : Int) < (x.1 6 8).toInt) (h2 : (x.1 6 8).toInt ≤ 130) (f : Nat) (hs : x.1 9 i = -32) : f_Law_workOut_6_l (f + 1) x P 1 I = f_Law_workOut_6_l f x 0 0 (I + 1) := by
  have n1 : ¬ (1 : Int32) = 0 := by decide
  rw [ws_47 hI h1 h2, hs, if_pos rfl]
  unfold f_Law_workOut_36
  rw [if_neg n1]
  unfold f_Law_workOut_47
  rw [if_pos rfl]
  rfl
theorem ws_fin {x : am_H} {I P p : Int32} (h1 : (x.1 6 8).toInt ≤ I.toInt) (f : Nat) : f_Law_workOut_6_l (f + 1) x P p I = some (0, x) := by
  show f_Law_workOut_6 _ x P p I = _
  unfold f_Law_workOut_6
  rw [if_pos (by rw [ti_le]; omega)]
  rfl
theorem sx10 {x x2 : am_H} (s : sx [10] x x2) : x2.1 6 = x.1 6 ∧ x2.1 9 = x.1 9 ∧ x2.1 11 = x.1 11 := ⟨(s 6 (by decide)).1, (s 9 (by decide)).1, (s 11 (by decide)).1⟩
/-- steps that push one number -/
def seT (st : List Int32) (val : (Nat → Int32) → Int32) : Prop := ∀ (x : am_H) (i t : Nat) (I P : Int32) (f : Nat), I.toInt = i → P.toInt = t → ((i + st.length : Nat) : Int) ≤ (x.1 6 8).toInt → (x.1 6 8).toInt ≤ 130 → t + st.length ≤ 130 → arT (x.1 9) i st →
  ∃ x2 I2 P2, f_Law_workOut_6_l (st.length + f) x P 0 I = f_Law_workOut_6_l f x2 P2 0 I2 ∧ I2.toInt = (i + st.length : Nat) ∧ P2.toInt = (t + 1 : Nat) ∧ sx [10] x x2 ∧ x2.1 10 t = val (x.1 11) ∧ ∀ j, j < t → x2.1 10 j = x.1 10 j
/-- steps that change the number on top -/
def seQ (st : List Int32) (val : (Nat → Int32) → Int32 → Int32) : Prop := ∀ (x : am_H) (i t : Nat) (I P : Int32) (f : Nat), I.toInt = i → P.toInt = (t + 1 : Nat) → ((i + st.length : Nat) : Int) ≤ (x.1 6 8).toInt → (x.1 6 8).toInt ≤ 130 → t + st.length < 130 → arT (x.1 9) i st →
  ∃ x2 I2 P2, f_Law_workOut_6_l (st.length + f) x P 0 I = f_Law_workOut_6_l f x2 P2 0 I2 ∧ I2.toInt = (i + st.length : Nat) ∧ P2.toInt = (t + 1 : Nat) ∧ sx [10] x x2 ∧ x2.1 10 t = val (x.1 11) (x.1 10 t) ∧ ∀ j, j < t → x2.1 10 j = x.1 10 j
theorem seQ_nil : seQ [] (fun _ v => v) := fun x _ _ I P _ hI hP _ _ _ _ => ⟨x, I, P, by rw [List.length_nil, Nat.zero_add], by simpa using hI, hP, sx.rf _ _, rfl, fun _ _ => rfl⟩
theorem len_app (A B : List Int32) (f : Nat) : (A ++ B).length + f = A.length + (B.length + f) := by rw [List.length_append]; omega
theorem seT_app {A B : List Int32} {va : (Nat → Int32) → Int32} {vb : (Nat → Int32) → Int32 → Int32} (hA : seT A va) (hB : seQ B vb) (hl : 1 ≤ A.length) : seT (A ++ B) (fun nm => vb nm (va nm)) := by
  intro x i t I P f hI hP h1 h2 h3 h4
  obtain ⟨a1, a2⟩ := arT_app.mp h4
  rw [List.length_append] at h1 h3
  obtain ⟨x2, I2, P2, b1, b2, b3, b4, b5, b6⟩ := hA x i t I P (B.length + f) hI hP (by omega) h2 (by omega) a1
  obtain ⟨s1, s2, s3⟩ := sx10 b4
  obtain ⟨x3, I3, P3, c1, c2, c3, c4, c5, c6⟩ := hB x2 (i + A.length) t I2 P2 f b2 b3 (by rw [s1]; omega) (by rw [s1]; exact h2) (by omega) (by rw [s2]; exact a2)
  refine ⟨x3, I3, P3, by rw [len_app, b1, c1], by rw [c2, List.length_append]; omega, c3, b4.tr c4, by rw [c5, b5, s3], fun j hj => by rw [c6 j hj, b6 j hj]⟩
/-- a number pushed, then joined with what is below -/
theorem seQ_bin {A B : List Int32} {va : (Nat → Int32) → Int32} {vb : (Nat → Int32) → Int32 → Int32} {o : Int32} (hA : seT A va) (hB : seQ B vb) (ho : -20 ≤ o.toInt ∧ o.toInt ≤ -11) : seQ (A ++ o :: B) (fun nm v => vb nm (jnS o v (va nm))) := by
  intro x i t I P f hI hP h1 h2 h3 h4
  obtain ⟨a1, a2⟩ := arT_app.mp h4
  rw [List.length_append, List.length_cons] at h1 h3
  obtain ⟨x2, I2, P2, b1, b2, b3, b4, b5, b6⟩ := hA x i (t + 1) I P (B.length + 1 + f) hI hP (by omega) h2 (by omega) a1
  obtain ⟨s1, s2, s3⟩ := sx10 b4
  have h9 : t + 1 < 1000 := by omega
  obtain ⟨P4, e4⟩ : ∃ q, P2 + -1 = q := ⟨_, rfl⟩
  have hP2 : P4.toInt = (t + 1 : Nat) := by rw [← e4]; exact i_m1 b3 h9
  have w := ws_bin (x := x2) (t := t) e4 b2 (by rw [s1]; omega) (by rw [s1]; exact h2) b3 (by omega) (B.length + f) (by rw [s2]; exact a2.1) ho
  have hs : sx [10] x2 (am_pI x2 10 t (jnS o (x2.1 10 t) (x2.1 10 (t + 1)))) := sx.pI _ _ _ _ (by simp)
  have ht : (am_pI x2 10 t (jnS o (x2.1 10 t) (x2.1 10 (t + 1)))).1 10 t = jnS o (x.1 10 t) (va (x.1 11)) := by
    rw [hI1, if_pos ⟨rfl, rfl⟩, b5, b6 t (by omega)]
  have hlow : ∀ j, j < t → (am_pI x2 10 t (jnS o (x2.1 10 t) (x2.1 10 (t + 1)))).1 10 j = x.1 10 j := fun j hj => by
    rw [hI1, if_neg (by omega), b6 j (by omega)]
  generalize am_pI x2 10 t (jnS o (x2.1 10 t) (x2.1 10 (t + 1))) = y at *
  obtain ⟨u1, u2, u3⟩ := sx10 hs
  obtain ⟨x3, I3, P3, c1, c2, c3, c4, c5, c6⟩ := hB y (i + A.length + 1) t (I2 + 1) P4 f (i_next b2 (by omega)) hP2 (by rw [u1, s1]; omega) (by rw [u1, s1]; exact h2) (by omega) (by rw [u2, s2]; exact a2.2)
  refine ⟨x3, I3, P3, ?_, by rw [c2, List.length_append, List.length_cons]; omega, c3, (b4.tr hs).tr c4, by rw [c5, ht, u3, s3], fun j hj => by rw [c6 j hj, hlow j hj]⟩
  rw [show (A ++ o :: B).length + f = A.length + (B.length + 1 + f) by rw [List.length_append, List.length_cons]; omega, b1, show B.length + 1 + f = B.length + f + 1 by omega, w, c1]
theorem seT_un {A : List Int32} {va : (Nat → Int32) → Int32} {s : Int32} (hA : seT A va) (hs : s = -21 ∨ s = -22) (hl : 1 ≤ A.length) : seT (A ++ [s]) (fun nm => if s = -21 then jnS (-14) (va nm) 0 else -(va nm)) := by
  refine seT_app (vb := fun _ v => if s = -21 then jnS (-14) v 0 else -v) hA ?_ hl
  intro x i t I P f hI hP h1 h2 h3 h4
  rw [List.length_singleton] at h1 h3
  refine ⟨_, I + 1, P, by rw [List.length_singleton, Nat.add_comm]; exact ws_un hI (by omega) h2 hP (by omega) f h4.1 hs, i_next hI (by omega), hP, sx.pI _ _ _ _ (by simp), by rw [hI1, if_pos ⟨rfl, rfl⟩], fun j hj => by rw [hI1, if_neg (by omega)]⟩
theorem seT_one {s : Int32} {va : (Nat → Int32) → Int32} (hb : -11 < s.toInt) (hv : ∀ x : am_H, f_Law_valueOf x s = some (va (x.1 11))) : seT [s] va := by
  intro x i t I P f hI hP h1 h2 h3 h4
  rw [List.length_singleton] at h1 h3
  refine ⟨_, I + 1, P + 1, by rw [List.length_singleton, Nat.add_comm]; exact ws_push hI (by omega) h2 hP (by omega) f h4.1 hb (hv x), i_next hI (by omega), i_next hP (by omega), sx.pI _ _ _ _ (by simp), by rw [hI1, if_pos ⟨rfl, rfl⟩], fun j hj => by rw [hI1, if_neg (by omega)]⟩
def SE (n : Nat) (R : Nat → PR) : Prop := ∀ a, a ≤ n → (R a).1 = true → seT (R a).2.2.1 (R a).2.2.2 ∧ 1 ≤ (R a).2.2.1.length
theorem se_ch {T : Nat → Int32} {n : Nat} {lev : Int32} {R : Nat → PR} (hw : wfT n R) (h : SE n R) : ∀ (f a : Nat), a ≤ n → (chnT (bxT T n) lev R f a).1 = true → seQ (chnT (bxT T n) lev R f a).2.2.1 (chnT (bxT T n) lev R f a).2.2.2 := by
  intro f
  induction f with
  | zero => intro a ha _; exact seQ_nil
  | succ f ih =>
    intro a ha
    unfold chnT
    by_cases e : f_Law_operatorOf lev (bxT T n a) = 0
    · rw [if_pos e]; exact fun _ => seQ_nil
    · rw [if_neg e]
      have hlt := opr_lt e
      have ho := opr_b _ _ e
      by_cases ok : (R (a + 1)).1 = true
      · rw [if_pos ok]
        obtain ⟨w1, w2, w3⟩ := hw (a + 1) (by omega)
        obtain ⟨g1, g2⟩ := h (a + 1) (by omega) ok
        by_cases l2 : lev = 2
        · rw [if_pos l2]; exact fun _ => seQ_bin g1 seQ_nil ho
        · rw [if_neg l2]; exact fun q => seQ_bin g1 (ih _ w2 q) ho
      · rw [if_neg ok]; exact fun q => absurd q (by simp)
theorem se_up {T : Nat → Int32} {n : Nat} {lev : Int32} {R : Nat → PR} (hw : wfT n R) (h : SE n R) : SE n (upT (bxT T n) lev R) := by
  intro a ha
  unfold upT
  by_cases ok : (R a).1 = true
  · rw [if_pos ok]
    obtain ⟨w1, w2, w3⟩ := hw a ha
    obtain ⟨g1, g2⟩ := h a ha ok
    exact fun q => ⟨seT_app g1 (se_ch hw h 120 _ w2 q) g2, by rw [List.length_append]; omega⟩
  · rw [if_neg ok]; exact fun q => absurd q (by simp)
theorem se_lv {T : Nat → Int32} {n : Nat} {R : Nat → PR} (hw : wfT n R) (h : SE n R) : ∀ j, SE n (lvT (bxT T n) R j) := by
  intro j
  induction j with
  | zero => exact h
  | succ j ih => exact se_up (wf_lv hw j) ih
theorem m1_step {k : Int32} (h : 0 ≤ k.toInt ∧ k.toInt ≤ 5) : ∃ q : Int32, -1 - k = q ∧ q.toInt = -1 - k.toInt ∧ -1 - q = k := by
  have z1 : (-1 : Int32).toInt = -1 := rfl
  have s := ti_sub (-1) k
  rw [z1] at s
  refine ⟨-1 - k, rfl, by omega, ?_⟩
  rw [ti_eq, ti_sub, s, z1]
  omega
theorem se_at {T : Nat → Int32} {n : Nat} {els : PR} {a : Nat} (h : els.1 = true → seT els.2.2.1 els.2.2.2 ∧ 1 ≤ els.2.2.1.length) : (atT (bxT T n) els a).1 = true → seT (atT (bxT T n) els a).2.2.1 (atT (bxT T n) els a).2.2.2 ∧ 1 ≤ (atT (bxT T n) els a).2.2.1.length := by
  have z0 : (0 : Int32).toInt = 0 := rfl
  have z6 : (6 : Int32).toInt = 6 := rfl
  have z1 : (-1 : Int32).toInt = -1 := rfl
  unfold atT
  by_cases d : f_Law_isDigit (bxT T n a) = true
  · rw [if_pos d]
    have h3 := num_ok (T := T) (n := n) (a := a)
    refine fun _ => ⟨seT_one (by omega) (fun x => ?_), by simp⟩
    unfold f_Law_valueOf
    rw [if_neg (by rw [ti_lt]; omega)]
    rfl
  · rw [if_neg d]
    by_cases e : 0 ≤ (f_Model_nameOf (bxT T n a)).toInt
    · rw [if_pos e]
      have h2 := name_b (bxT T n a)
      generalize f_Model_nameOf (bxT T n a) = k at *
      obtain ⟨q, e1, e2, e3⟩ := m1_step (k := k) (by omega)
      rw [e1]
      refine fun _ => ⟨seT_one (by omega) (fun x => ?_), by simp⟩
      unfold f_Law_valueOf
      rw [if_pos (by rw [ti_lt]; omega)]
      unfold f_Law_valueOf_6
      rw [e3, if_neg (by rw [ti_lt]; omega)]
      unfold f_Law_valueOf_14
      rw [if_neg (by rw [ti_le]; omega)]
      unfold f_Law_valueOf_23
      rw [if_pos (ok_of (by omega))]
    · rw [if_neg e]; exact h
theorem se_op {T : Nat → Int32} {n : Nat} : ∀ k, SE n (opT (bxT T n) k) := by
  intro k
  induction k with
  | zero => intro a ha; exact se_at (fun q => absurd q (by simp))
  | succ k ih =>
    intro a ha
    refine se_at ?_
    by_cases c : bxT T n a = 40
    · rw [if_pos c]
      have hlt : a < n := bx_lt (fun q => by rw [q] at c; exact absurd c (by decide))
      have g := se_lv (T := T) (wf_op k) ih 5 (a + 1) (by omega)
      generalize lvT (bxT T n) (opT (bxT T n) k) 5 (a + 1) = r at *
      by_cases ok : r.1 = true
      · rw [if_pos ok]
        by_cases q : bxT T n r.2.1 = 41
        · rw [if_pos q]; exact fun _ => g ok
        · rw [if_neg q]; exact fun z => absurd z (by simp)
      · rw [if_neg ok]; exact fun z => absurd z (by simp)
    · rw [if_neg c]
      by_cases c2 : bxT T n a = 33 ∨ bxT T n a = 45
      · rw [if_pos c2]
        have hlt : a < n := bx_lt (fun q => by rw [q] at c2; exact absurd c2 (by decide))
        have g := ih (a + 1) (by omega)
        generalize opT (bxT T n) k (a + 1) = r at *
        by_cases ok : r.1 = true
        · rw [if_pos ok]
          obtain ⟨g1, g2⟩ := g ok
          refine fun _ => ⟨?_, by rw [List.length_append]; omega⟩
          by_cases z : bxT T n a = 33
          · simp only [z, if_true]
            have := seT_un (s := -21) g1 (Or.inl rfl) g2
            simpa using this
          · simp only [z, if_false]
            have := seT_un (s := -22) g1 (Or.inr rfl) g2
            simpa using this
        · rw [if_neg ok]; exact fun z => absurd z (by simp)
      · rw [if_neg c2]; exact fun z => absurd z (by simp)
theorem se_ex {T : Nat → Int32} {n : Nat} : SE n (exT (bxT T n)) := se_lv (wf_op 6) (se_op 6) 5
