/-! lines -/
theorem ws_skips {x : am_H} (h2 : (x.1 6 8).toInt ≤ 130) : ∀ (Q : List Int32) (i : Nat) (I P : Int32) (f : Nat), I.toInt = i → ((i + Q.length : Nat) : Int) ≤ (x.1 6 8).toInt → arT (x.1 9) i Q → plT Q → ∃ I2, f_Law_workOut_6_l (Q.length + f) x P 1 I = f_Law_workOut_6_l f x P 1 I2 ∧ I2.toInt = (i + Q.length : Nat) := by
  intro Q
  induction Q with
  | nil => intro i I P f hI _ _ _; exact ⟨I, by rw [List.length_nil, Nat.zero_add], by simpa using hI⟩
  | cons s Q ih =>
    intro i I P f hI h1 hA hp
    rw [List.length_cons] at h1
    obtain ⟨I2, a1, a2⟩ := ih (i + 1) (I + 1) P f (i_next hI (by omega)) (by omega) hA.2 (fun s hs => hp s (List.mem_cons_of_mem _ hs))
    refine ⟨I2, ?_, by rw [a2, List.length_cons]; omega⟩
    rw [List.length_cons, show Q.length + 1 + f = Q.length + f + 1 by omega, ws_skip hI (by omega) h2 _ (by rw [hA.1]; exact hp s List.mem_cons_self), a1]
/-- a line's steps: they end the work with a number, or lead to the next line -/
def seL (st : List Int32) (val : (Nat → Int32) → Option Int32) : Prop := ∀ (x : am_H) (i : Nat) (I : Int32) (f : Nat), I.toInt = i → ((i + st.length : Nat) : Int) ≤ (x.1 6 8).toInt → (x.1 6 8).toInt ≤ 130 → arT (x.1 9) i st →
  (∀ v, val (x.1 11) = some v → ∃ x2, f_Law_workOut_6_l (st.length + f) x 0 0 I = some (v, x2) ∧ sx [10] x x2) ∧
  (val (x.1 11) = none → ∃ x2 I2, f_Law_workOut_6_l (st.length + f) x 0 0 I = f_Law_workOut_6_l f x2 0 0 I2 ∧ I2.toInt = (i + st.length : Nat) ∧ sx [10] x x2)
theorem se_ln {T : Nat → Int32} {n a : Nat} (ha : a ≤ n) (h : (lnT (bxT T n) (exT (bxT T n)) a).1 = true) : seL (lnT (bxT T n) (exT (bxT T n)) a).2.2.1 (lnT (bxT T n) (exT (bxT T n)) a).2.2.2 := by
  revert h
  unfold lnT
  obtain ⟨w1, w2, w3⟩ := wf_ex (T := T) (n := n) a ha
  have g := se_ex (T := T) (n := n) a ha
  by_cases ok : (exT (bxT T n) a).1 = true
  · rw [if_pos ok]
    obtain ⟨g1, g2⟩ := g ok
    by_cases q : bxT T n (exT (bxT T n) a).2.1 = 63
    · rw [if_pos q]
      have hlt : (exT (bxT T n) a).2.1 < n := bx_lt (fun z => by rw [z] at q; exact absurd q (by decide))
      obtain ⟨w4, w5, w6⟩ := wf_ex (T := T) (n := n) ((exT (bxT T n) a).2.1 + 1) (by omega)
      have k := se_ex (T := T) (n := n) ((exT (bxT T n) a).2.1 + 1) (by omega)
      generalize exT (bxT T n) ((exT (bxT T n) a).2.1 + 1) = r at *
      generalize exT (bxT T n) a = r0 at *
      by_cases ok2 : r.1 = true
      · rw [if_pos ok2]
        obtain ⟨k1, k2⟩ := k ok2
        obtain ⟨-, -, w7⟩ := w6 ok2
        intro _ x i I f hI h1 h2 hA
        obtain ⟨A1, A2⟩ := arT_app.mp hA
        obtain ⟨A3, A4⟩ := A2
        obtain ⟨A5, A6⟩ := arT_app.mp A4
        simp only [List.length_append, List.length_cons, List.length_nil] at h1
        obtain ⟨x2, I2, P2, b1, b2, b3, b4, b5, b6⟩ := g1 x i 0 I 0 (r.2.2.1.length + 1 + 1 + f) hI (by decide) (by omega) h2 (by omega) A1
        obtain ⟨s1, s2, s3⟩ := sx10 b4
        have hlen : (r0.2.2.1 ++ -31 :: (r.2.2.1 ++ [-32])).length + f = r0.2.2.1.length + (r.2.2.1.length + 1 + 1 + f) := by
          simp only [List.length_append, List.length_cons, List.length_nil]; omega
        have hif := ws_if (x := x2) (P := P2) b2 (by rw [s1]; omega) (by rw [s1]; exact h2) (r.2.2.1.length + (1 + f)) (by rw [s2]; exact A3)
        rw [b5] at hif
        have hb : f_Law_workOut_6_l ((r0.2.2.1 ++ -31 :: (r.2.2.1 ++ [-32])).length + f) x 0 0 I = f_Law_workOut_6_l (r.2.2.1.length + (1 + f)) x2 0 (if r0.2.2.2 (x.1 11) = 0 then 1 else 0) (I2 + 1) := by
          rw [hlen, b1, show r.2.2.1.length + 1 + 1 + f = r.2.2.1.length + (1 + f) + 1 by omega, hif]
        have hn := i_next b2 (by omega)
        constructor
        · intro v hv
          simp only [] at hv
          by_cases z : r0.2.2.2 (x.1 11) = 0
          · rw [if_pos z] at hv; cases hv
          · rw [if_neg z] at hv
            rw [hb, if_neg z]
            obtain ⟨x3, I3, P3, c1, c2, c3, c4, c5, c6⟩ := k1 x2 (i + r0.2.2.1.length + 1) 0 (I2 + 1) 0 (1 + f) hn (by decide) (by rw [s1]; omega) (by rw [s1]; exact h2) (by omega) (by rw [s2]; exact A5)
            obtain ⟨u1, u2, u3⟩ := sx10 c4
            refine ⟨x3, ?_, b4.tr c4⟩
            rw [c1, Nat.add_comm, ws_end0 c2 (by rw [u1, s1]; omega) (by rw [u1, s1]; exact h2) f (by rw [u2, s2]; exact A6.1), c5, s3]
            injection hv with hv
            rw [hv]
        · intro hv
          simp only [] at hv
          by_cases z : r0.2.2.2 (x.1 11) = 0
          · rw [hb, if_pos z]
            obtain ⟨I3, c1, c2⟩ := ws_skips (x := x2) (by rw [s1]; exact h2) r.2.2.1 (i + r0.2.2.1.length + 1) (I2 + 1) 0 (1 + f) hn (by rw [s1]; omega) (by rw [s2]; exact A5) w7
            refine ⟨x2, I3 + 1, ?_, ?_, b4⟩
            · rw [c1, Nat.add_comm, ws_end1 c2 (by rw [s1]; omega) (by rw [s1]; exact h2) f (by rw [s2]; exact A6.1)]
            · rw [i_next c2 (by omega)]; simp only [List.length_append, List.length_cons, List.length_nil]; omega
          · rw [if_neg z] at hv; cases hv
      · rw [if_neg ok2]; exact fun z => absurd z (by simp)
    · rw [if_neg q]
      generalize exT (bxT T n) a = r0 at *
      intro _ x i I f hI h1 h2 hA
      obtain ⟨A1, A2⟩ := arT_app.mp hA
      simp only [List.length_append, List.length_cons, List.length_nil] at h1
      obtain ⟨x2, I2, P2, b1, b2, b3, b4, b5, b6⟩ := g1 x i 0 I 0 (1 + f) hI (by decide) (by omega) h2 (by omega) A1
      obtain ⟨s1, s2, s3⟩ := sx10 b4
      refine ⟨fun v hv => ⟨x2, ?_, b4⟩, fun hv => by cases hv⟩
      injection hv with hv
      rw [len_app, List.length_singleton, b1, Nat.add_comm 1 f, ws_end0 b2 (by rw [s1]; omega) (by rw [s1]; exact h2) f (by rw [s2]; exact A2.1), b5, hv]
  · rw [if_neg ok]; exact fun z => absurd z (by simp)
theorem wf_ln {T : Nat → Int32} {n a : Nat} (ha : a ≤ n) : a ≤ (lnT (bxT T n) (exT (bxT T n)) a).2.1 ∧ (lnT (bxT T n) (exT (bxT T n)) a).2.1 ≤ n ∧ ((lnT (bxT T n) (exT (bxT T n)) a).1 = true → a < (lnT (bxT T n) (exT (bxT T n)) a).2.1 ∧ (lnT (bxT T n) (exT (bxT T n)) a).2.2.1.length + a ≤ (lnT (bxT T n) (exT (bxT T n)) a).2.1 + 1 ∧ 1 ≤ (lnT (bxT T n) (exT (bxT T n)) a).2.2.1.length) := by
  unfold lnT
  obtain ⟨w1, w2, w3⟩ := wf_ex (T := T) (n := n) a ha
  by_cases ok : (exT (bxT T n) a).1 = true
  · rw [if_pos ok]
    obtain ⟨w4, w5, -⟩ := w3 ok
    by_cases q : bxT T n (exT (bxT T n) a).2.1 = 63
    · rw [if_pos q]
      have hlt : (exT (bxT T n) a).2.1 < n := bx_lt (fun z => by rw [z] at q; exact absurd q (by decide))
      obtain ⟨v1, v2, v3⟩ := wf_ex (T := T) (n := n) ((exT (bxT T n) a).2.1 + 1) (by omega)
      generalize exT (bxT T n) ((exT (bxT T n) a).2.1 + 1) = r at *
      by_cases ok2 : r.1 = true
      · rw [if_pos ok2]
        obtain ⟨v4, v5, -⟩ := v3 ok2
        refine ⟨by simp only []; omega, v2, fun _ => ⟨by simp only []; omega, ?_, ?_⟩⟩ <;> simp only [List.length_append, List.length_cons, List.length_nil] <;> omega
      · rw [if_neg ok2]; exact ⟨by simp only []; omega, v2, fun z => absurd z (by simp)⟩
    · rw [if_neg q]
      refine ⟨w1, w2, fun _ => ⟨w4, ?_, ?_⟩⟩ <;> simp only [List.length_append, List.length_cons, List.length_nil] <;> omega
  · rw [if_neg ok]; exact ⟨w1, w2, fun z => absurd z (by simp)⟩
theorem wf_ls {T : Nat → Int32} {n : Nat} : ∀ (f a : Nat), a ≤ n → (lsT (bxT T n) n (lnT (bxT T n) (exT (bxT T n))) f a).2.1 ≤ n ∧ ((lsT (bxT T n) n (lnT (bxT T n) (exT (bxT T n))) f a).1 = true → (lsT (bxT T n) n (lnT (bxT T n) (exT (bxT T n))) f a).2.2.1.length + a ≤ n + 1 ∧ 1 ≤ (lsT (bxT T n) n (lnT (bxT T n) (exT (bxT T n))) f a).2.2.1.length) := by
  intro f
  induction f with
  | zero => intro a ha; exact ⟨ha, fun z => absurd z (by simp [lsT])⟩
  | succ f ih =>
    intro a ha
    obtain ⟨w1, w2, w3⟩ := wf_ln (T := T) ha
    unfold lsT
    generalize lnT (bxT T n) (exT (bxT T n)) a = r at *
    by_cases ok : r.1 = true
    · rw [if_pos ok]
      obtain ⟨w4, w5, w6⟩ := w3 ok
      by_cases e : n ≤ r.2.1
      · rw [if_pos e]; exact ⟨w2, fun _ => ⟨by omega, w6⟩⟩
      · rw [if_neg e]
        by_cases q : bxT T n r.2.1 = 59
        · rw [if_pos q]
          obtain ⟨i1, i2⟩ := ih (r.2.1 + 1) (by omega)
          refine ⟨i1, fun z => ?_⟩
          obtain ⟨i3, i4⟩ := i2 z
          simp only [List.length_append]; omega
        · rw [if_neg q]; exact ⟨w2, fun z => absurd z (by simp)⟩
    · rw [if_neg ok]; exact ⟨w2, fun z => absurd z (by simp)⟩
theorem se_ls {T : Nat → Int32} {n : Nat} : ∀ (f a : Nat), a ≤ n → (lsT (bxT T n) n (lnT (bxT T n) (exT (bxT T n))) f a).1 = true → ∀ (x : am_H) (i : Nat) (I : Int32) (g : Nat), I.toInt = i → ((i + (lsT (bxT T n) n (lnT (bxT T n) (exT (bxT T n))) f a).2.2.1.length : Nat) : Int) = (x.1 6 8).toInt → (x.1 6 8).toInt ≤ 130 → arT (x.1 9) i (lsT (bxT T n) n (lnT (bxT T n) (exT (bxT T n))) f a).2.2.1 →
    ∃ x2, f_Law_workOut_6_l ((lsT (bxT T n) n (lnT (bxT T n) (exT (bxT T n))) f a).2.2.1.length + (g + 1)) x 0 0 I = some (((lsT (bxT T n) n (lnT (bxT T n) (exT (bxT T n))) f a).2.2.2 (x.1 11)).getD 0, x2) ∧ sx [10] x x2 := by
  intro f
  induction f with
  | zero => intro a ha z; exact absurd z (by simp [lsT])
  | succ f ih =>
    intro a ha
    obtain ⟨w1, w2, w3⟩ := wf_ln (T := T) ha
    have k := se_ln (T := T) ha
    unfold lsT
    generalize lnT (bxT T n) (exT (bxT T n)) a = r at *
    by_cases ok : r.1 = true
    · rw [if_pos ok]
      have k2 := k ok
      by_cases e : n ≤ r.2.1
      · rw [if_pos e]
        intro _ x i I g hI h1 h2 hA
        obtain ⟨b1, b2⟩ := k2 x i I (g + 1) hI (by omega) h2 hA
        cases hv : r.2.2.2 (x.1 11) with
        | some v => exact b1 v hv
        | none =>
          obtain ⟨x2, I2, c1, c2, c3⟩ := b2 hv
          exact ⟨x2, by rw [c1, ws_fin (by rw [(sx10 c3).1, c2]; omega)]; rfl, c3⟩
      · rw [if_neg e]
        by_cases q : bxT T n r.2.1 = 59
        · rw [if_pos q]
          intro z x i I g hI h1 h2 hA
          have ih2 := ih (r.2.1 + 1) (by omega) z
          generalize lsT (bxT T n) n (lnT (bxT T n) (exT (bxT T n))) f (r.2.1 + 1) = r2 at *
          obtain ⟨A1, A2⟩ := arT_app.mp hA
          simp only [List.length_append] at h1
          obtain ⟨b1, b2⟩ := k2 x i I (r2.2.2.1.length + (g + 1)) hI (by omega) h2 A1
          simp only [len_app]
          cases hv : r.2.2.2 (x.1 11) with
          | some v => exact b1 v hv
          | none =>
            obtain ⟨x2, I2, c1, c2, c3⟩ := b2 hv
            obtain ⟨s1, s2, s3⟩ := sx10 c3
            obtain ⟨x3, d1, d2⟩ := ih2 x2 (i + r.2.2.1.length) I2 g c2 (by rw [s1]; omega) (by rw [s1]; exact h2) (by rw [s2]; exact A2)
            rw [s3] at d1
            exact ⟨x3, c1.trans d1, c3.tr d2⟩
        · rw [if_neg q]; exact fun z => absurd z (by simp)
    · rw [if_neg ok]; exact fun z => absurd z (by simp)
/-! what a text gives -/
noncomputable def LV (T : Nat → Int32) (n : Nat) (nm : Nat → Int32) : Int32 := ((txT T n).2.2.2 nm).getD 0
theorem wf_tx {T : Nat → Int32} {n : Nat} (hok : (txT T n).1 = true) : (txT T n).2.2.1.length ≤ n + 1 ∧ 1 ≤ (txT T n).2.2.1.length := by
  obtain ⟨w1, w2⟩ := wf_ls (T := T) (n := n) lsF 0 (Nat.zero_le _)
  exact w2 hok
theorem se_tx {T : Nat → Int32} {n : Nat} (hok : (txT T n).1 = true) (x : am_H) (g : Nat) (h1 : (((txT T n).2.2.1.length : Nat) : Int) = (x.1 6 8).toInt) (h2 : (x.1 6 8).toInt ≤ 130) (hA : arT (x.1 9) 0 (txT T n).2.2.1) : ∃ x2, f_Law_workOut_6_l ((txT T n).2.2.1.length + (g + 1)) x 0 0 0 = some (LV T n (x.1 11), x2) ∧ sx [10] x x2 := by
  have h := se_ls (T := T) (n := n) lsF 0 (Nat.zero_le _) hok x 0 0 g (by decide)
  rw [Nat.zero_add] at h
  exact h h1 h2 hA
theorem v_Law_workOut {T : Nat → Int32} {n : Nat} (hok : (txT T n).1 = true) (hn : n ≤ 120) {x : am_H} (h8 : (x.1 6 8).toInt = ((txT T n).2.2.1.length : Nat)) (hA : arT (x.1 9) 0 (txT T n).2.2.1) : ∃ x2, f_Law_workOut x = some (LV T n (x.1 11), x2) ∧ sx [10] x x2 := by
  obtain ⟨w3, w4⟩ := wf_tx hok
  obtain ⟨x2, b1, b2⟩ := se_tx hok x (4999 - (txT T n).2.2.1.length) h8.symm (by omega) hA
  refine ⟨x2, ?_, b2⟩
  unfold f_Law_workOut
  have e2 : (txT T n).2.2.1.length + (4999 - (txT T n).2.2.1.length + 1) = am_fu := by unfold am_fu; omega
  rw [e2] at b1
  exact b1
