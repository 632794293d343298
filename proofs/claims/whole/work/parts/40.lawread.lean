/-! the class reads a text -/
def arT (g : Nat → Int32) : Nat → List Int32 → Prop
  | _, [] => True
  | i, s :: r => g i = s ∧ arT g (i + 1) r
theorem arT_app {g : Nat → Int32} {B : List Int32} : ∀ {A : List Int32} {i : Nat}, arT g i (A ++ B) ↔ arT g i A ∧ arT g (i + A.length) B := by
  intro A
  induction A with
  | nil => intro i; simp [arT]
  | cons s r ih =>
    intro i
    simp only [List.cons_append, arT, ih, List.length_cons]
    rw [show i + 1 + r.length = i + (r.length + 1) by omega, and_assoc]
theorem arT_c {g g2 : Nat → Int32} : ∀ {A : List Int32} {i : Nat}, (∀ j, i ≤ j → j < i + A.length → g2 j = g j) → arT g i A → arT g2 i A := by
  intro A
  induction A with
  | nil => intro i _ _; trivial
  | cons s r ih =>
    intro i h hA
    refine ⟨by rw [h i (Nat.le_refl _) (by simp only [List.length_cons]; omega)]; exact hA.1, ih (fun j h1 h2 => h j (by omega) (by simp only [List.length_cons]; omega)) hA.2⟩
def frC (x x2 : am_H) : Prop := sx [6, 8] x x2 ∧ ∀ i, i ≠ 6 → i ≠ 7 → x2.1 6 i = x.1 6 i
theorem frC.rf (x : am_H) : frC x x := ⟨sx.rf _ _, fun _ _ _ => rfl⟩
theorem frC.tr {x y z : am_H} (a : frC x y) (b : frC y z) : frC x z := ⟨a.1.tr b.1, fun i h1 h2 => (b.2 i h1 h2).trans (a.2 i h1 h2)⟩
def txC (T : Nat → Int32) (n : Nat) (x : am_H) : Prop := (x.1 6 5).toInt = n ∧ n ≤ 120 ∧ (∀ a, a < n → x.1 7 a = T a) ∧ ∀ a, a < n → 0 ≤ (T a).toInt ∧ (T a).toInt ≤ 255
theorem txC.fr {T : Nat → Int32} {n : Nat} {x y : am_H} (h : txC T n x) (f : frC x y) : txC T n y := by
  obtain ⟨h1, h2, h3, h4⟩ := h
  refine ⟨by rw [f.2 5 (by decide) (by decide)]; exact h1, h2, fun a ha => ?_, h4⟩
  rw [(f.1 7 (by decide)).1]; exact h3 a ha
theorem nx_C {T : Nat → Int32} {n a : Nat} {x : am_H} (h : txC T n x) (ha : (x.1 6 6).toInt = a) (han : a ≤ n) : ∃ c, f_Law_next x = some c ∧ (c = bxT T n a ∨ (c = -1 ∧ bxT T n a = 0)) := by
  obtain ⟨h1, h2, h3, h4⟩ := h
  have z0 : (0 : Int32).toInt = 0 := rfl
  have z120 : (120 : Int32).toInt = 120 := rfl
  unfold f_Law_next
  rw [if_neg (by rw [ti_lt]; omega)]
  unfold f_Law_next_7
  by_cases e : a < n
  · rw [if_neg (by rw [ti_le]; omega)]
    unfold f_Law_next_18
    rw [if_neg (by rw [ti_le]; omega)]
    unfold f_Law_next_27
    rw [if_pos (ok_of (by omega))]
    have q : (x.1 6 6).toNatClampNeg = a := by rw [ti_nat]; omega
    refine ⟨_, rfl, Or.inl ?_⟩
    rw [q, h3 a e]
    unfold bxT; rw [if_pos e]
  · rw [if_pos (by rw [ti_le]; omega)]
    exact ⟨-1, rfl, Or.inr ⟨rfl, bx_end e⟩⟩
theorem cc_opr {c b : Int32} (h : c = b ∨ (c = -1 ∧ b = 0)) (lev : Int32) : f_Law_operatorOf lev c = f_Law_operatorOf lev b := by
  rcases h with h | ⟨h1, h2⟩
  · rw [h]
  · rw [h1, h2]; rfl
theorem cc_dig {c b : Int32} (h : c = b ∨ (c = -1 ∧ b = 0)) : f_Law_isDigit c = f_Law_isDigit b := by
  rcases h with h | ⟨h1, h2⟩
  · rw [h]
  · rw [h1, h2]; decide
theorem cc_eq {c b k : Int32} (h : c = b ∨ (c = -1 ∧ b = 0)) (hk : ¬ -1 = k) (hk0 : ¬ 0 = k) : (c = k) = (b = k) := by
  rcases h with h | ⟨h1, h2⟩
  · rw [h]
  · rw [h1, h2]; exact propext ⟨fun q => absurd q hk, fun q => absurd q hk0⟩
theorem ad_C (x : am_H) {a : Nat} (ha : (x.1 6 6).toInt = a) (hA : a ≤ 1000) : frC x (am_pI x 6 6 (x.1 6 6 + 1)) ∧ ((am_pI x 6 6 (x.1 6 6 + 1)).1 6 6).toInt = (a + 1 : Nat) ∧ (am_pI x 6 6 (x.1 6 6 + 1)).1 6 7 = x.1 6 7 ∧ (am_pI x 6 6 (x.1 6 6 + 1)).1 8 = x.1 8 := by
  refine ⟨⟨sx.pI _ _ _ _ (by simp), fun i h1 _ => by simp [hI1, h1]⟩, ?_, by simp [hI1], by funext j; simp [hI1]⟩
  have e := ti_add (x.1 6 6) 1
  have z1 : (1 : Int32).toInt = 1 := rfl
  rw [hI1, if_pos ⟨rfl, rfl⟩]
  omega
theorem wr_C {x : am_H} {d : Nat} (hd : (x.1 6 7).toInt = d) (h : d < 130) (s : Int32) : ∃ x2, f_Law_write x s = some x2 ∧ frC x x2 ∧ x2.1 6 6 = x.1 6 6 ∧ (x2.1 6 7).toInt = (d + 1 : Nat) ∧ x2.1 8 d = s ∧ ∀ i, i ≠ d → x2.1 8 i = x.1 8 i := by
  have z0 : (0 : Int32).toInt = 0 := rfl
  have z130 : (130 : Int32).toInt = 130 := rfl
  have z1 : (1 : Int32).toInt = 1 := rfl
  have q : (x.1 6 7).toNatClampNeg = d := by rw [ti_nat]; omega
  have e := ti_add (x.1 6 7) 1
  unfold f_Law_write
  rw [if_neg (by rw [ti_lt]; omega)]
  unfold f_Law_write_7
  rw [if_neg (by rw [ti_le]; omega)]
  unfold f_Law_write_17
  rw [if_pos (ok_of (by omega)), q]
  refine ⟨_, rfl, ⟨(sx.pI x 8 d s (by simp)).tr (sx.pI _ _ _ _ (by simp)), fun i _ h2 => by simp [hI1, h2]⟩, by simp [hI1], ?_, by simp [hI1], fun i hi => by simp [hI1, hi]⟩
  have : (am_pI x 8 d s).1 6 7 = x.1 6 7 := by simp [hI1]
  rw [hI1, if_pos ⟨rfl, rfl⟩, this]
  omega
/-- a reader of the class does as the picture says -/
def rdC (T : Nat → Int32) (n : Nat) (F : am_H → Option (Bool × am_H)) (R : Nat → PR) : Prop :=
  ∀ (x : am_H) (a d : Nat), txC T n x → (x.1 6 6).toInt = a → a ≤ n → (x.1 6 7).toInt = d → d ≤ a →
    ∃ x2, F x = some ((R a).1, x2) ∧ frC x x2 ∧ (x2.1 6 6).toInt = ((R a).2.1 : Nat) ∧ ((R a).1 = true → (x2.1 6 7).toInt = (d + (R a).2.2.1.length : Nat) ∧ arT (x2.1 8) d (R a).2.2.1 ∧ ∀ i, i < d → x2.1 8 i = x.1 8 i)
theorem ch_C {T : Nat → Int32} {n : Nat} {rc : rc_Law_readBracket} {lev op : Int32} {R : Nat → PR} (hsub : rdC T n (fun h => rc.2.1 h (lev + 1) op) R) (hw : wfT n R) : ∀ (f fu : Nat) (x : am_H) (a d : Nat) (cnt : Int32), f < fu → cnt.toInt + f = 120 → 0 ≤ cnt.toInt → txC T n x → (x.1 6 6).toInt = a → a ≤ n → (x.1 6 7).toInt = d → d ≤ a →
    ∃ x2, f_Law_readLevel_26_l rc fu x lev op cnt = some ((chnT (bxT T n) lev R f a).1, x2) ∧ frC x x2 ∧ (x2.1 6 6).toInt = ((chnT (bxT T n) lev R f a).2.1 : Nat) ∧ ((chnT (bxT T n) lev R f a).1 = true → (x2.1 6 7).toInt = (d + (chnT (bxT T n) lev R f a).2.2.1.length : Nat) ∧ arT (x2.1 8) d (chnT (bxT T n) lev R f a).2.2.1 ∧ ∀ i, i < d → x2.1 8 i = x.1 8 i) := by
  have z120 : (120 : Int32).toInt = 120 := rfl
  have z1 : (1 : Int32).toInt = 1 := rfl
  intro f
  induction f with
  | zero =>
    intro fu x a d cnt hf hc h0 hT ha han hd hda
    obtain ⟨g, rfl⟩ : ∃ g, fu = g + 1 := ⟨fu - 1, by omega⟩
    refine ⟨x, ?_, frC.rf x, ha, fun _ => ⟨by simpa [chnT] using hd, trivial, fun _ _ => rfl⟩⟩
    show f_Law_readLevel_26 rc _ x lev op cnt = _
    unfold f_Law_readLevel_26
    rw [if_pos (by rw [ti_le]; omega)]; rfl
  | succ f ih =>
    intro fu x a d cnt hf hc h0 hT ha han hd hda
    obtain ⟨g, rfl⟩ : ∃ g, fu = g + 1 := ⟨fu - 1, by omega⟩
    obtain ⟨c, c1, c2⟩ := nx_C hT ha han
    have hgo : f_Law_readLevel_26_l rc (g + 1) x lev op cnt = f_Law_readLevel_40 rc (f_Law_readLevel_26_l rc g) x lev op cnt (f_Law_operatorOf lev (bxT T n a)) := by
      show f_Law_readLevel_26 rc _ x lev op cnt = _
      unfold f_Law_readLevel_26
      rw [if_neg (by rw [ti_le]; omega)]
      unfold f_Law_readLevel_32
      rw [c1, Option.bind_some]
      unfold f_Law_readLevel_37
      rw [cc_opr c2]
    rw [hgo]
    unfold chnT
    by_cases e : f_Law_operatorOf lev (bxT T n a) = 0
    · rw [if_pos e]
      refine ⟨x, ?_, frC.rf x, ha, fun _ => ⟨by simpa using hd, trivial, fun _ _ => rfl⟩⟩
      unfold f_Law_readLevel_40
      rw [if_pos e]; rfl
    · rw [if_neg e]
      have hlt := opr_lt e
      obtain ⟨h1, h2, h3, h4⟩ := id hT
      obtain ⟨p1, p2, p3, p4⟩ := ad_C x ha (by omega)
      obtain ⟨x2, s1, s2, s3, s4⟩ := hsub _ (a + 1) d (hT.fr p1) p2 (by omega) (by rw [p3]; exact hd) (by omega)
      obtain ⟨w1, w2, w3⟩ := hw (a + 1) (by omega)
      have hgo2 : f_Law_readLevel_40 rc (f_Law_readLevel_26_l rc g) x lev op cnt (f_Law_operatorOf lev (bxT T n a)) = f_Law_readLevel_67 rc (f_Law_readLevel_26_l rc g) x2 lev op cnt (f_Law_operatorOf lev (bxT T n a)) (R (a + 1)).1 := by
        unfold f_Law_readLevel_40
        rw [if_neg e]
        unfold f_Law_readLevel_49
        have s1' : rc.2.1 (am_pI x 6 6 (x.1 6 6 + 1)) (lev + 1) op = some ((R (a + 1)).1, x2) := s1
        rw [s1', Option.bind_some]
      rw [hgo2]
      unfold f_Law_readLevel_67
      by_cases ok : (R (a + 1)).1 = true
      · rw [if_pos ok, if_pos ok]
        obtain ⟨w4, w5, w6⟩ := w3 ok
        obtain ⟨t1, t2, t3⟩ := s4 ok
        obtain ⟨x3, v1, v2, v3, v4, v5, v6⟩ := wr_C t1 (by omega) (f_Law_operatorOf lev (bxT T n a))
        unfold f_Law_readLevel_72
        rw [v1, Option.bind_some]
        unfold f_Law_readLevel_78
        have hS : arT (x3.1 8) d (R (a + 1)).2.2.1 := arT_c (fun j _ h2 => v6 j (by omega)) t2
        have hlow : ∀ i, i < d → x3.1 8 i = x.1 8 i := fun i hi => by rw [v6 i (by omega), t3 i hi, p4]
        have hfr : frC x x3 := (p1.tr s2).tr v2
        by_cases l2 : lev = 2
        · rw [if_pos l2, if_pos l2]
          refine ⟨x3, rfl, hfr, by rw [v3]; exact s3, fun _ => ⟨?_, ?_, hlow⟩⟩
          · rw [v4]; simp only [List.length_append, List.length_singleton]; omega
          · exact arT_app.mpr ⟨hS, v5, trivial⟩
        · rw [if_neg l2, if_neg l2]
          unfold f_Law_readLevel_85
          have tc : (cnt + 1).toInt = cnt.toInt + 1 := by rw [ti_add]; omega
          obtain ⟨x4, i1, i2, i3, i4⟩ := ih g x3 (R (a + 1)).2.1 (d + (R (a + 1)).2.2.1.length + 1) (cnt + 1) (by omega) (by omega) (by omega) (hT.fr hfr) (by rw [v3]; exact s3) w2 v4 (by omega)
          refine ⟨x4, i1, hfr.tr i2, i3, fun q => ?_⟩
          obtain ⟨j1, j2, j3⟩ := i4 q
          refine ⟨?_, arT_app.mpr ⟨arT_c (fun j _ h2 => j3 j (by omega)) hS, ?_, j2⟩, fun i hi => by rw [j3 i (by omega), hlow i hi]⟩
          · rw [j1]; simp only [List.length_append, List.length_cons]; omega
          · rw [j3 _ (by omega)]; exact v5
      · rw [if_neg ok, if_neg ok]
        exact ⟨x2, rfl, p1.tr s2, s3, fun q => absurd q (by simp)⟩
theorem up_C {T : Nat → Int32} {n : Nat} {rc : rc_Law_readBracket} {lev op : Int32} {R : Nat → PR} (hsub : rdC T n (fun h => rc.2.1 h (lev + 1) op) R) (hw : wfT n R) (hl : lev < 5) : rdC T n (fun h => f_Law_readLevel_0 rc h lev op) (upT (bxT T n) lev R) := by
  intro x a d hT ha han hd hda
  obtain ⟨x2, s1, s2, s3, s4⟩ := hsub x a d hT ha han hd hda
  obtain ⟨w1, w2, w3⟩ := hw a han
  have s1' : rc.2.1 x (lev + 1) op = some ((R a).1, x2) := s1
  show ∃ x2, f_Law_readLevel_0 rc x lev op = some ((upT (bxT T n) lev R a).1, x2) ∧ _
  unfold f_Law_readLevel_0
  rw [if_pos hl]
  unfold f_Law_readLevel_11
  rw [s1', Option.bind_some]
  unfold f_Law_readLevel_19 upT
  by_cases ok : (R a).1 = true
  · rw [if_pos ok, if_pos ok]
    obtain ⟨w4, w5, w6⟩ := w3 ok
    obtain ⟨t1, t2, t3⟩ := s4 ok
    unfold f_Law_readLevel_24
    obtain ⟨x4, i1, i2, i3, i4⟩ := ch_C hsub hw 120 am_fu x2 (R a).2.1 (d + (R a).2.2.1.length) 0 (by unfold am_fu; omega) (by decide) (by decide) (hT.fr s2) s3 w2 t1 (by omega)
    refine ⟨x4, i1, s2.tr i2, i3, fun q => ?_⟩
    obtain ⟨j1, j2, j3⟩ := i4 q
    refine ⟨?_, arT_app.mpr ⟨arT_c (fun j _ h2 => j3 j (by omega)) t2, j2⟩, fun i hi => by rw [j3 i (by omega), t3 i hi]⟩
    rw [j1]; simp only [List.length_append]; omega
  · rw [if_neg ok, if_neg ok]
    exact ⟨x2, rfl, s2, s3, fun q => absurd q (by simp)⟩
def lvC (j : Nat) : Int32 := ([5, 4, 3, 2, 1, 0] : List Int32).getD j 0
theorem lv_C {T : Nat → Int32} {n : Nat} {F : Nat} {op : Int32} {R : Nat → PR} (h : rdC T n (fun h => (g_Law_readBracket F).2.2.1 h op) R) (hw : wfT n R) : ∀ j, j ≤ 5 → rdC T n (fun h => (g_Law_readBracket (F + 1 + j)).2.1 h (lvC j) op) (lvT (bxT T n) R j) := by
  intro j
  induction j with
  | zero =>
    intro _ x a d hT ha han hd hda
    obtain ⟨x2, s1, s2⟩ := h x a d hT ha han hd hda
    refine ⟨x2, ?_, s2⟩
    show f_Law_readLevel_0 (g_Law_readBracket F) x 5 op = _
    unfold f_Law_readLevel_0
    rw [if_neg (by decide)]
    unfold f_Law_readLevel_5
    have s1' : (g_Law_readBracket F).2.2.1 x op = some ((R a).1, x2) := s1
    rw [s1', Option.bind_some]; rfl
  | succ j ih =>
    intro hj
    have hsub := ih (by omega)
    have e : lvC j = lvN j + 1 ∧ lvC (j + 1) = lvN j ∧ lvN j < 5 := by
      match j, hj with
      | 0, _ => decide
      | 1, _ => decide
      | 2, _ => decide
      | 3, _ => decide
      | 4, _ => decide
    rw [e.1] at hsub
    rw [e.2.1]
    exact up_C hsub (wf_lv hw j) e.2.2
theorem num_C {T : Nat → Int32} {n : Nat} : ∀ (f fu : Nat) (x : am_H) (a : Nat) (v cnt : Int32), f < fu → cnt.toInt + f = 4 → 0 ≤ cnt.toInt → txC T n x → (x.1 6 6).toInt = a → a ≤ n →
    ∃ x2, f_Law_readNumber_4_l fu x v cnt = f_Law_readNumber_48 x2 (numT (bxT T n) f a v).2 ∧ frC x x2 ∧ (x2.1 6 6).toInt = ((numT (bxT T n) f a v).1 : Nat) ∧ x2.1 6 7 = x.1 6 7 ∧ x2.1 8 = x.1 8 := by
  have z4 : (4 : Int32).toInt = 4 := rfl
  have z1 : (1 : Int32).toInt = 1 := rfl
  intro f
  induction f with
  | zero =>
    intro fu x a v cnt hf hc h0 hT ha han
    obtain ⟨g, rfl⟩ : ∃ g, fu = g + 1 := ⟨fu - 1, by omega⟩
    refine ⟨x, ?_, frC.rf x, ha, rfl, rfl⟩
    show f_Law_readNumber_4 _ x v cnt = _
    unfold f_Law_readNumber_4
    rw [if_pos (by rw [ti_le]; omega)]; rfl
  | succ f ih =>
    intro fu x a v cnt hf hc h0 hT ha han
    obtain ⟨g, rfl⟩ : ∃ g, fu = g + 1 := ⟨fu - 1, by omega⟩
    obtain ⟨c, c1, c2⟩ := nx_C hT ha han
    have hgo : f_Law_readNumber_4_l (g + 1) x v cnt = f_Law_readNumber_16 (f_Law_readNumber_4_l g) x v cnt (f_Law_isDigit (bxT T n a)) := by
      show f_Law_readNumber_4 _ x v cnt = _
      unfold f_Law_readNumber_4
      rw [if_neg (by rw [ti_le]; omega)]
      unfold f_Law_readNumber_9
      rw [c1, Option.bind_some]
      unfold f_Law_readNumber_13
      rw [cc_dig c2]
    rw [hgo]
    unfold f_Law_readNumber_16 numT
    by_cases d : f_Law_isDigit (bxT T n a) = true
    · rw [if_pos d, if_pos d]
      have hlt := dig_lt d
      have ec : c = bxT T n a := by
        rcases c2 with q | ⟨q1, q2⟩
        · exact q
        · rw [q2] at d; exact absurd d (by decide)
      obtain ⟨h1, h2, h3, h4⟩ := id hT
      obtain ⟨p1, p2, p3, p4⟩ := ad_C x ha (by omega)
      have tc : (cnt + 1).toInt = cnt.toInt + 1 := by rw [ti_add]; omega
      unfold f_Law_readNumber_19
      rw [c1, Option.bind_some, ec]
      unfold f_Law_readNumber_27
      obtain ⟨x2, i1, i2, i3, i4, i5⟩ := ih g _ (a + 1) (v * 10 + (bxT T n a - 48)) (cnt + 1) (by omega) (by omega) (by omega) (hT.fr p1) p2 (by omega)
      exact ⟨x2, i1, p1.tr i2, i3, i4.trans p3, i5.trans p4⟩
    · rw [if_neg d, if_neg d]
      exact ⟨x, rfl, frC.rf x, ha, rfl, rfl⟩
theorem nameC : ∀ k, k < 256 → f_Str_indexOf_I (((Int32.ofNat k).toUInt32 % 65536).toInt32) = some (f_Model_nameOf (Int32.ofNat k)) := by decide +kernel
theorem name_C {c : Int32} (h : 0 ≤ c.toInt ∧ c.toInt ≤ 255) : f_Str_indexOf_I ((c.toUInt32 % 65536).toInt32) = some (f_Model_nameOf c) := by
  have e : c = Int32.ofNat c.toInt.toNat := by
    rw [ti_eq, Int32.toInt_ofNat_of_lt (by omega)]; omega
  rw [e]
  exact nameC _ (by omega)
/-- a number or a name, else as told -/
theorem at_C {T : Nat → Int32} {n : Nat} {rc : rc_Law_readBracket} {op : Int32} {els : PR} {x : am_H} {a d : Nat} (hT : txC T n x) (ha : (x.1 6 6).toInt = a) (han : a ≤ n) (hd : (x.1 6 7).toInt = d) (hda : d ≤ a)
    (hels : ∀ c, (c = bxT T n a ∨ (c = -1 ∧ bxT T n a = 0)) → ∃ x2, f_Law_readOperand_56 rc x op c = some (els.1, x2) ∧ frC x x2 ∧ (x2.1 6 6).toInt = (els.2.1 : Nat) ∧ (els.1 = true → (x2.1 6 7).toInt = (d + els.2.2.1.length : Nat) ∧ arT (x2.1 8) d els.2.2.1 ∧ ∀ i, i < d → x2.1 8 i = x.1 8 i)) :
    ∃ x2, f_Law_readOperand_0 rc x op = some ((atT (bxT T n) els a).1, x2) ∧ frC x x2 ∧ (x2.1 6 6).toInt = ((atT (bxT T n) els a).2.1 : Nat) ∧ ((atT (bxT T n) els a).1 = true → (x2.1 6 7).toInt = (d + (atT (bxT T n) els a).2.2.1.length : Nat) ∧ arT (x2.1 8) d (atT (bxT T n) els a).2.2.1 ∧ ∀ i, i < d → x2.1 8 i = x.1 8 i) := by
  have z0 : (0 : Int32).toInt = 0 := rfl
  obtain ⟨c, c1, c2⟩ := nx_C hT ha han
  obtain ⟨h1, h2, h3, h4⟩ := id hT
  unfold f_Law_readOperand_0
  rw [c1, Option.bind_some]
  unfold f_Law_readOperand_4 f_Law_readOperand_9 atT
  rw [cc_dig c2]
  by_cases dg : f_Law_isDigit (bxT T n a) = true
  · rw [if_pos dg, if_pos dg]
    unfold f_Law_readOperand_12 f_Law_readNumber
    obtain ⟨x2, i1, i2, i3, i4, i5⟩ := num_C (T := T) (n := n) 4 am_fu x a 0 0 (by unfold am_fu; omega) (by decide) (by decide) hT ha han
    have hd2 : (x2.1 6 7).toInt = d := by rw [i4]; exact hd
    obtain ⟨x3, v1, v2, v3, v4, v5, v6⟩ := wr_C hd2 (by omega) (numT (bxT T n) 4 a 0).2
    rw [i1]
    unfold f_Law_readNumber_48
    rw [v1, Option.bind_some]
    refine ⟨x3, rfl, i2.tr v2, by rw [v3]; exact i3, fun _ => ⟨v4, ⟨v5, trivial⟩, fun i hi => by rw [v6 i (by omega), i5]⟩⟩
  · rw [if_neg dg, if_neg dg]
    have h17 : f_Law_readOperand_17 rc x op c = f_Law_readOperand_32 rc x op c (f_Model_nameOf (bxT T n a)) := by
      unfold f_Law_readOperand_17
      rcases c2 with q | ⟨q1, q2⟩
      · subst q
        by_cases e : a < n
        · have eb : bxT T n a = T a := by unfold bxT; rw [if_pos e]
          have hb := h4 a e
          rw [eb]
          rw [if_pos (by rw [ti_le]; omega)]
          unfold f_Law_readOperand_25
          rw [name_C hb, Option.bind_some]
        · rw [bx_end e]; rfl
      · rw [q1, q2]; rfl
    rw [h17]
    unfold f_Law_readOperand_32
    by_cases e : 0 ≤ (f_Model_nameOf (bxT T n a)).toInt
    · rw [if_pos e, if_neg (by rw [ti_lt]; omega)]
      have hlt := name_lt e
      obtain ⟨p1, p2, p3, p4⟩ := ad_C x ha (by omega)
      have hd2 : ((am_pI x 6 6 (x.1 6 6 + 1)).1 6 7).toInt = d := by rw [p3]; exact hd
      obtain ⟨x3, v1, v2, v3, v4, v5, v6⟩ := wr_C hd2 (by omega) (-1 - f_Model_nameOf (bxT T n a))
      unfold f_Law_readOperand_37
      rw [v1, Option.bind_some]
      exact ⟨x3, rfl, p1.tr v2, by rw [v3]; exact p2, fun _ => ⟨v4, ⟨v5, trivial⟩, fun i hi => by rw [v6 i (by omega), p4]⟩⟩
    · rw [if_neg e, if_pos (by rw [ti_lt]; omega)]
      exact hels c c2
theorem op_C {T : Nat → Int32} {n : Nat} : ∀ (k F : Nat) (op : Int32), k ≤ 6 → 8 * k + 1 ≤ F → op.toInt + k = 6 → rdC T n (fun h => (g_Law_readBracket F).2.2.1 h op) (opT (bxT T n) k) := by
  have z6 : (6 : Int32).toInt = 6 := rfl
  have z1 : (1 : Int32).toInt = 1 := rfl
  intro k
  induction k with
  | zero =>
    intro F op _ hF hop x a d hT ha han hd hda
    obtain ⟨F, rfl⟩ : ∃ g, F = g + 1 := ⟨F - 1, by omega⟩
    refine at_C (rc := g_Law_readBracket F) hT ha han hd hda (fun c hc => ⟨x, ?_, frC.rf x, ha, fun q => absurd q (by simp)⟩)
    unfold f_Law_readOperand_56
    rw [if_pos (by rw [ti_le]; omega)]; rfl
  | succ k ih =>
    intro F op hk hF hop x a d hT ha han hd hda
    obtain ⟨F, rfl⟩ : ∃ g, F = g + 8 := ⟨F - 8, by omega⟩
    have top : (op + 1).toInt = op.toInt + 1 := by rw [ti_add]; omega
    obtain ⟨h1, h2, h3, h4⟩ := id hT
    refine at_C (rc := g_Law_readBracket (F + 7)) hT ha han hd hda (fun c hc => ?_)
    unfold f_Law_readOperand_56
    rw [if_neg (by rw [ti_le]; omega)]
    have hno : ¬ (bxT T n a = 40 ∨ bxT T n a = 33 ∨ bxT T n a = 45) → f_Law_readOperand_62 (g_Law_readBracket (F + 7)) x op c = some (false, x) := by
      intro q
      unfold f_Law_readOperand_62
      rw [if_neg (by rw [cc_eq hc (by decide) (by decide)]; exact fun z => q (Or.inr (Or.inl z)))]
      unfold f_Law_readOperand_68
      rw [if_neg (by rw [cc_eq hc (by decide) (by decide)]; exact fun z => q (Or.inr (Or.inr z)))]
      unfold f_Law_readOperand_74
      rw [if_neg (by rw [cc_eq hc (by decide) (by decide)]; exact fun z => q (Or.inl z))]
      rfl
    have hyes : (bxT T n a = 40 ∨ bxT T n a = 33 ∨ bxT T n a = 45) → f_Law_readOperand_62 (g_Law_readBracket (F + 7)) x op c = f_Law_readOperand_82 (g_Law_readBracket (F + 7)) x op c ∧ c = bxT T n a ∧ a < n := by
      intro q
      have hlt : a < n := bx_lt (fun z => by rw [z] at q; exact absurd q (by decide))
      have ec : c = bxT T n a := by
        rcases hc with z | ⟨z1, z2⟩
        · exact z
        · rw [z2] at q; exact absurd q (by decide)
      refine ⟨?_, ec, hlt⟩
      rw [ec]
      rcases q with z | z | z <;> rw [z] <;> rfl
    by_cases c40 : bxT T n a = 40
    · rw [if_pos c40]
      obtain ⟨q1, q2, hlt⟩ := hyes (Or.inl c40)
      rw [q1, q2, c40]
      obtain ⟨p1, p2, p3, p4⟩ := ad_C x ha (by omega)
      have hl := lv_C (ih F (op + 1) (by omega) (by omega) (by omega)) (wf_op k) 5 (by omega)
      obtain ⟨x2, s1, s2, s3, s4⟩ := hl _ (a + 1) d (hT.fr p1) p2 (by omega) (by rw [p3]; exact hd) (by omega)
      obtain ⟨w1, w2, w3⟩ := wf_lv (T := T) (wf_op (T := T) (n := n) k) 5 (a + 1) (by omega)
      have s1' : (g_Law_readBracket (F + 6)).2.1 (am_pI x 6 6 (x.1 6 6 + 1)) 0 (op + 1) = some ((lvT (bxT T n) (opT (bxT T n) k) 5 (a + 1)).1, x2) := s1
      generalize lvT (bxT T n) (opT (bxT T n) k) 5 (a + 1) = r at *
      have hgo : f_Law_readOperand_82 (g_Law_readBracket (F + 7)) x op 40 = (f_Law_readBracket_6 (g_Law_readBracket (F + 6)) x2 r.1).bind fun p => f_Law_readOperand_105 (g_Law_readBracket (F + 7)) p.2 p.1 := by
        unfold f_Law_readOperand_82
        rw [if_pos rfl]
        unfold f_Law_readOperand_98
        show (f_Law_readBracket_0 (g_Law_readBracket (F + 6)) (am_pI x 6 6 (x.1 6 6 + 1)) (op + 1)).bind _ = _
        unfold f_Law_readBracket_0
        rw [s1', Option.bind_some]
      rw [hgo]
      unfold f_Law_readBracket_6
      by_cases ok : r.1 = true
      · rw [if_pos ok, if_pos ok]
        obtain ⟨w4, w5, w6⟩ := w3 ok
        obtain ⟨t1, t2, t3⟩ := s4 ok
        have hT2 := (hT.fr p1).fr s2
        obtain ⟨c', e1, e2⟩ := nx_C hT2 s3 w2
        unfold f_Law_readBracket_9
        rw [e1, Option.bind_some]
        unfold f_Law_readBracket_13
        by_cases q : bxT T n r.2.1 = 41
        · have hq : c' = 41 := by rw [cc_eq e2 (by decide) (by decide)]; exact q
          rw [if_pos hq, if_pos q]
          obtain ⟨u1, u2, u3, u4⟩ := ad_C x2 s3 (by omega)
          exact ⟨_, rfl, (p1.tr s2).tr u1, u2, fun _ => ⟨by rw [u3]; exact t1, by rw [u4]; exact t2, fun i hi => by rw [u4, t3 i hi, p4]⟩⟩
        · have hq : ¬ c' = 41 := by rw [cc_eq e2 (by decide) (by decide)]; exact q
          rw [if_neg hq, if_neg q]
          exact ⟨x2, rfl, p1.tr s2, s3, fun z => absurd z (by simp)⟩
      · rw [if_neg ok, if_neg ok]
        exact ⟨x2, rfl, p1.tr s2, s3, fun z => absurd z (by simp)⟩
    · rw [if_neg c40]
      by_cases cm : bxT T n a = 33 ∨ bxT T n a = 45
      · rw [if_pos cm]
        obtain ⟨q1, q2, hlt⟩ := hyes (Or.inr cm)
        rw [q1, q2]
        obtain ⟨p1, p2, p3, p4⟩ := ad_C x ha (by omega)
        obtain ⟨x2, s1, s2, s3, s4⟩ := ih (F + 6) (op + 1) (by omega) (by omega) (by omega) _ (a + 1) d (hT.fr p1) p2 (by omega) (by rw [p3]; exact hd) (by omega)
        obtain ⟨w1, w2, w3⟩ := wf_op (T := T) (n := n) k (a + 1) (by omega)
        have s1' : (g_Law_readBracket (F + 6)).2.2.1 (am_pI x 6 6 (x.1 6 6 + 1)) (op + 1) = some ((opT (bxT T n) k (a + 1)).1, x2) := s1
        generalize opT (bxT T n) k (a + 1) = r at *
        have hgo : f_Law_readOperand_82 (g_Law_readBracket (F + 7)) x op (bxT T n a) = (f_Law_readPrefixed_5 (g_Law_readBracket (F + 6)) x2 (bxT T n a) r.1).bind fun p => f_Law_readOperand_116 (g_Law_readBracket (F + 7)) p.2 p.1 := by
          unfold f_Law_readOperand_82
          rw [if_neg c40]
          unfold f_Law_readOperand_108
          show (f_Law_readPrefixed_0 (g_Law_readBracket (F + 6)) (am_pI x 6 6 (x.1 6 6 + 1)) (bxT T n a) (op + 1)).bind _ = _
          unfold f_Law_readPrefixed_0
          rw [s1', Option.bind_some]
        rw [hgo]
        unfold f_Law_readPrefixed_5
        by_cases ok : r.1 = true
        · rw [if_pos ok, if_pos ok]
          obtain ⟨w4, w5, w6⟩ := w3 ok
          obtain ⟨t1, t2, t3⟩ := s4 ok
          have h10 : f_Law_readPrefixed_10 (g_Law_readBracket (F + 6)) x2 (bxT T n a) = f_Law_readPrefixed_24 (g_Law_readBracket (F + 6)) x2 (if bxT T n a = 33 then -21 else -22) := by
            unfold f_Law_readPrefixed_10
            by_cases z : bxT T n a = 33
            · rw [if_pos z, if_pos z]; rfl
            · rw [if_neg z, if_neg z]; rfl
          rw [h10]
          obtain ⟨x3, v1, v2, v3, v4, v5, v6⟩ := wr_C t1 (by omega) (if bxT T n a = 33 then -21 else -22)
          unfold f_Law_readPrefixed_24
          rw [v1, Option.bind_some]
          refine ⟨x3, rfl, (p1.tr s2).tr v2, by rw [v3]; exact s3, fun _ => ⟨?_, arT_app.mpr ⟨arT_c (fun j _ h2 => v6 j (by omega)) t2, v5, trivial⟩, fun i hi => by rw [v6 i (by omega), t3 i hi, p4]⟩⟩
          rw [v4]; simp only [List.length_append, List.length_singleton]; omega
        · rw [if_neg ok, if_neg ok]
          exact ⟨x2, rfl, p1.tr s2, s3, fun z => absurd z (by simp)⟩
      · rw [if_neg cm]
        refine ⟨x, ?_, frC.rf x, ha, fun z => absurd z (by simp)⟩
        exact hno (fun z => z.elim c40 cm)
theorem ex_C {T : Nat → Int32} {n : Nat} : rdC T n (fun h => f_Law_readLevel h 0 0) (exT (bxT T n)) := by
  have h := lv_C (op_C (T := T) (n := n) 6 58 0 (by omega) (by omega) (by decide)) (wf_op 6) 5 (by omega)
  exact h
