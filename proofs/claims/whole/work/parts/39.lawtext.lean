/-! a text read: whether it goes on, where it ends, its steps, what they give with the numbers named -/
abbrev PR : Type := Bool × Nat × List Int32 × ((Nat → Int32) → Int32)
abbrev PQ : Type := Bool × Nat × List Int32 × ((Nat → Int32) → Int32 → Int32)
abbrev PL : Type := Bool × Nat × List Int32 × ((Nat → Int32) → Option Int32)
def bxT (T : Nat → Int32) (n a : Nat) : Int32 := if a < n then T a else 0
def jnS (o a b : Int32) : Int32 := (f_Law_join o a b).getD 0
def numT (nx : Nat → Int32) : Nat → Nat → Int32 → Nat × Int32
  | 0, a, v => (a, v)
  | f + 1, a, v => if f_Law_isDigit (nx a) = true then numT nx f (a + 1) (v * 10 + (nx a - 48)) else (a, v)
def chnT (nx : Nat → Int32) (lev : Int32) (sub : Nat → PR) : Nat → Nat → PQ
  | 0, a => (true, a, [], fun _ v => v)
  | f + 1, a =>
    if f_Law_operatorOf lev (nx a) = 0 then (true, a, [], fun _ v => v)
    else if (sub (a + 1)).1 = true then
      (if lev = 2 then (true, (sub (a + 1)).2.1, (sub (a + 1)).2.2.1 ++ [f_Law_operatorOf lev (nx a)], fun nm v => jnS (f_Law_operatorOf lev (nx a)) v ((sub (a + 1)).2.2.2 nm))
      else ((chnT nx lev sub f (sub (a + 1)).2.1).1, (chnT nx lev sub f (sub (a + 1)).2.1).2.1, (sub (a + 1)).2.2.1 ++ f_Law_operatorOf lev (nx a) :: (chnT nx lev sub f (sub (a + 1)).2.1).2.2.1, fun nm v => (chnT nx lev sub f (sub (a + 1)).2.1).2.2.2 nm (jnS (f_Law_operatorOf lev (nx a)) v ((sub (a + 1)).2.2.2 nm))))
    else (false, (sub (a + 1)).2.1, [], fun _ v => v)
def lvN (j : Nat) : Int32 := ([4, 3, 2, 1, 0] : List Int32).getD j 0
/-- one level over another -/
def upT (nx : Nat → Int32) (lev : Int32) (sub : Nat → PR) (a : Nat) : PR :=
  if (sub a).1 = true then ((chnT nx lev sub 120 (sub a).2.1).1, (chnT nx lev sub 120 (sub a).2.1).2.1, (sub a).2.2.1 ++ (chnT nx lev sub 120 (sub a).2.1).2.2.1, fun nm => (chnT nx lev sub 120 (sub a).2.1).2.2.2 nm ((sub a).2.2.2 nm))
  else (false, (sub a).2.1, [], fun _ => 0)
def lvT (nx : Nat → Int32) (opd : Nat → PR) : Nat → Nat → PR
  | 0 => opd
  | j + 1 => upT nx (lvN j) (lvT nx opd j)
/-- a number or a name, else as told -/
def atT (nx : Nat → Int32) (els : PR) (a : Nat) : PR :=
  if f_Law_isDigit (nx a) = true then (true, (numT nx 4 a 0).1, [(numT nx 4 a 0).2], fun _ => (numT nx 4 a 0).2)
  else if 0 ≤ (f_Model_nameOf (nx a)).toInt then (true, a + 1, [-1 - f_Model_nameOf (nx a)], fun nm => nm (f_Model_nameOf (nx a)).toNatClampNeg)
  else els
def opT (nx : Nat → Int32) : Nat → Nat → PR
  | 0 => fun a => atT nx (false, a, [], fun _ => 0) a
  | k + 1 => fun a => atT nx (if nx a = 40 then (if (lvT nx (opT nx k) 5 (a + 1)).1 = true then (if nx (lvT nx (opT nx k) 5 (a + 1)).2.1 = 41 then (true, (lvT nx (opT nx k) 5 (a + 1)).2.1 + 1, (lvT nx (opT nx k) 5 (a + 1)).2.2) else (false, (lvT nx (opT nx k) 5 (a + 1)).2.1, [], fun _ => 0)) else (false, (lvT nx (opT nx k) 5 (a + 1)).2.1, [], fun _ => 0))
      else if nx a = 33 ∨ nx a = 45 then (if (opT nx k (a + 1)).1 = true then (true, (opT nx k (a + 1)).2.1, (opT nx k (a + 1)).2.2.1 ++ [if nx a = 33 then -21 else -22], fun nm => if nx a = 33 then jnS (-14) ((opT nx k (a + 1)).2.2.2 nm) 0 else -(opT nx k (a + 1)).2.2.2 nm) else (false, (opT nx k (a + 1)).2.1, [], fun _ => 0))
      else (false, a, [], fun _ => 0)) a
def exT (nx : Nat → Int32) : Nat → PR := lvT nx (opT nx 6) 5
def lnT (nx : Nat → Int32) (E : Nat → PR) (a : Nat) : PL :=
  if (E a).1 = true then
    (if nx (E a).2.1 = 63 then
      (if (E ((E a).2.1 + 1)).1 = true then (true, (E ((E a).2.1 + 1)).2.1, (E a).2.2.1 ++ (-31 :: ((E ((E a).2.1 + 1)).2.2.1 ++ [-32])), fun nm => if (E a).2.2.2 nm = 0 then none else some ((E ((E a).2.1 + 1)).2.2.2 nm))
      else (false, (E ((E a).2.1 + 1)).2.1, [], fun _ => none))
    else (true, (E a).2.1, (E a).2.2.1 ++ [-32], fun nm => some ((E a).2.2.2 nm)))
  else (false, (E a).2.1, [], fun _ => none)
def lsT (nx : Nat → Int32) (n : Nat) (L : Nat → PL) : Nat → Nat → PL
  | 0, a => (false, a, [], fun _ => none)
  | f + 1, a =>
    if (L a).1 = true then
      (if n ≤ (L a).2.1 then L a
      else if nx (L a).2.1 = 59 then ((lsT nx n L f ((L a).2.1 + 1)).1, (lsT nx n L f ((L a).2.1 + 1)).2.1, (L a).2.2.1 ++ (lsT nx n L f ((L a).2.1 + 1)).2.2.1, fun nm => ((L a).2.2.2 nm).or ((lsT nx n L f ((L a).2.1 + 1)).2.2.2 nm))
      else (false, (L a).2.1, [], fun _ => none))
    else (false, (L a).2.1, [], fun _ => none)
/-- a whole text (the number of lines that are looked for is known by its law alone) -/
theorem lsF_ex : ∃ k : Nat, k = 121 := ⟨121, rfl⟩
noncomputable def lsF : Nat := Classical.choose lsF_ex
theorem lsF_eq : lsF = 121 := Classical.choose_spec lsF_ex
noncomputable def txT (T : Nat → Int32) (n : Nat) : PL := lsT (bxT T n) n (lnT (bxT T n) (exT (bxT T n))) lsF 0
theorem jnS_eq (o a b : Int32) : f_Law_join o a b = some (jnS o a b) := by
  have h : ∃ r, f_Law_join o a b = some r := by
    by_cases hb : b = 0 <;> simp only [f_Law_join_149, f_Law_join_145, f_Law_join_141, f_Law_join_137, f_Law_join_133, f_Law_join_129, f_Law_join_125, f_Law_join_121, f_Law_join_117, f_Law_join_115, f_Law_join_111, f_Law_join_106, f_Law_join_104, f_Law_join_100, f_Law_join_95, f_Law_join_93, f_Law_join_89, f_Law_join_84, f_Law_join_82, f_Law_join_78, f_Law_join_74, f_Law_join_70, f_Law_join_64, f_Law_join_68, f_Law_join_60, f_Law_join_56, f_Law_join_153, f_Law_join, hb, if_true, if_false, not_true_eq_false, not_false_eq_true] <;> (repeat' split) <;> exact ⟨_, rfl⟩
  obtain ⟨r, h⟩ := h
  unfold jnS
  rw [h]; rfl
/-! the levels' signs -/
theorem opr_0 (c : Int32) : f_Law_operatorOf 0 c = if c = 124 then -11 else 0 := by
  have e4 : ¬ (0 : Int32) = 4 := by decide
  have e3 : ¬ (0 : Int32) = 3 := by decide
  have e2 : ¬ (0 : Int32) = 2 := by decide
  have e1 : ¬ (0 : Int32) = 1 := by decide
  by_cases h0 : c = 124
  · rw [h0]; decide
  simp only [f_Law_operatorOf_209, f_Law_operatorOf_204, f_Law_operatorOf_199, f_Law_operatorOf_113, f_Law_operatorOf_108, f_Law_operatorOf_103, f_Law_operatorOf_185, f_Law_operatorOf_180, f_Law_operatorOf_175, f_Law_operatorOf_161, f_Law_operatorOf_156, f_Law_operatorOf_151, f_Law_operatorOf_173, f_Law_operatorOf_168, f_Law_operatorOf_163, f_Law_operatorOf_197, f_Law_operatorOf_192, f_Law_operatorOf_187, f_Law_operatorOf_125, f_Law_operatorOf_120, f_Law_operatorOf_115, f_Law_operatorOf_137, f_Law_operatorOf_132, f_Law_operatorOf_127, f_Law_operatorOf_149, f_Law_operatorOf_144, f_Law_operatorOf_139, f_Law_operatorOf_101, f_Law_operatorOf_96, f_Law_operatorOf_92, f_Law_operatorOf_211, f_Law_operatorOf, h0, e4, e3, e2, e1, if_false, ite_self]
theorem opr_1 (c : Int32) : f_Law_operatorOf 1 c = if c = 38 then -12 else 0 := by
  have e4 : ¬ (1 : Int32) = 4 := by decide
  have e3 : ¬ (1 : Int32) = 3 := by decide
  have e2 : ¬ (1 : Int32) = 2 := by decide
  have e0 : ¬ (1 : Int32) = 0 := by decide
  by_cases h0 : c = 38
  · rw [h0]; decide
  simp only [f_Law_operatorOf_209, f_Law_operatorOf_204, f_Law_operatorOf_199, f_Law_operatorOf_113, f_Law_operatorOf_108, f_Law_operatorOf_103, f_Law_operatorOf_185, f_Law_operatorOf_180, f_Law_operatorOf_175, f_Law_operatorOf_161, f_Law_operatorOf_156, f_Law_operatorOf_151, f_Law_operatorOf_173, f_Law_operatorOf_168, f_Law_operatorOf_163, f_Law_operatorOf_197, f_Law_operatorOf_192, f_Law_operatorOf_187, f_Law_operatorOf_125, f_Law_operatorOf_120, f_Law_operatorOf_115, f_Law_operatorOf_137, f_Law_operatorOf_132, f_Law_operatorOf_127, f_Law_operatorOf_149, f_Law_operatorOf_144, f_Law_operatorOf_139, f_Law_operatorOf_101, f_Law_operatorOf_96, f_Law_operatorOf_92, f_Law_operatorOf_211, f_Law_operatorOf, h0, e4, e3, e2, e0, if_false, ite_self]
theorem opr_2 (c : Int32) : f_Law_operatorOf 2 c = if c = 60 then -13 else if c = 61 then -14 else if c = 62 then -15 else 0 := by
  have e4 : ¬ (2 : Int32) = 4 := by decide
  have e3 : ¬ (2 : Int32) = 3 := by decide
  have e1 : ¬ (2 : Int32) = 1 := by decide
  have e0 : ¬ (2 : Int32) = 0 := by decide
  by_cases h0 : c = 60
  · rw [h0]; decide
  by_cases h1 : c = 61
  · rw [h1]; decide
  by_cases h2 : c = 62
  · rw [h2]; decide
  simp only [f_Law_operatorOf_209, f_Law_operatorOf_204, f_Law_operatorOf_199, f_Law_operatorOf_113, f_Law_operatorOf_108, f_Law_operatorOf_103, f_Law_operatorOf_185, f_Law_operatorOf_180, f_Law_operatorOf_175, f_Law_operatorOf_161, f_Law_operatorOf_156, f_Law_operatorOf_151, f_Law_operatorOf_173, f_Law_operatorOf_168, f_Law_operatorOf_163, f_Law_operatorOf_197, f_Law_operatorOf_192, f_Law_operatorOf_187, f_Law_operatorOf_125, f_Law_operatorOf_120, f_Law_operatorOf_115, f_Law_operatorOf_137, f_Law_operatorOf_132, f_Law_operatorOf_127, f_Law_operatorOf_149, f_Law_operatorOf_144, f_Law_operatorOf_139, f_Law_operatorOf_101, f_Law_operatorOf_96, f_Law_operatorOf_92, f_Law_operatorOf_211, f_Law_operatorOf, h0, h1, h2, e4, e3, e1, e0, if_false, ite_self]
theorem opr_3 (c : Int32) : f_Law_operatorOf 3 c = if c = 43 then -16 else if c = 45 then -17 else 0 := by
  have e4 : ¬ (3 : Int32) = 4 := by decide
  have e2 : ¬ (3 : Int32) = 2 := by decide
  have e1 : ¬ (3 : Int32) = 1 := by decide
  have e0 : ¬ (3 : Int32) = 0 := by decide
  by_cases h0 : c = 43
  · rw [h0]; decide
  by_cases h1 : c = 45
  · rw [h1]; decide
  simp only [f_Law_operatorOf_209, f_Law_operatorOf_204, f_Law_operatorOf_199, f_Law_operatorOf_113, f_Law_operatorOf_108, f_Law_operatorOf_103, f_Law_operatorOf_185, f_Law_operatorOf_180, f_Law_operatorOf_175, f_Law_operatorOf_161, f_Law_operatorOf_156, f_Law_operatorOf_151, f_Law_operatorOf_173, f_Law_operatorOf_168, f_Law_operatorOf_163, f_Law_operatorOf_197, f_Law_operatorOf_192, f_Law_operatorOf_187, f_Law_operatorOf_125, f_Law_operatorOf_120, f_Law_operatorOf_115, f_Law_operatorOf_137, f_Law_operatorOf_132, f_Law_operatorOf_127, f_Law_operatorOf_149, f_Law_operatorOf_144, f_Law_operatorOf_139, f_Law_operatorOf_101, f_Law_operatorOf_96, f_Law_operatorOf_92, f_Law_operatorOf_211, f_Law_operatorOf, h0, h1, e4, e2, e1, e0, if_false, ite_self]
theorem opr_4 (c : Int32) : f_Law_operatorOf 4 c = if c = 42 then -18 else if c = 47 then -19 else if c = 37 then -20 else 0 := by
  have e3 : ¬ (4 : Int32) = 3 := by decide
  have e2 : ¬ (4 : Int32) = 2 := by decide
  have e1 : ¬ (4 : Int32) = 1 := by decide
  have e0 : ¬ (4 : Int32) = 0 := by decide
  by_cases h0 : c = 42
  · rw [h0]; decide
  by_cases h1 : c = 47
  · rw [h1]; decide
  by_cases h2 : c = 37
  · rw [h2]; decide
  simp only [f_Law_operatorOf_209, f_Law_operatorOf_204, f_Law_operatorOf_199, f_Law_operatorOf_113, f_Law_operatorOf_108, f_Law_operatorOf_103, f_Law_operatorOf_185, f_Law_operatorOf_180, f_Law_operatorOf_175, f_Law_operatorOf_161, f_Law_operatorOf_156, f_Law_operatorOf_151, f_Law_operatorOf_173, f_Law_operatorOf_168, f_Law_operatorOf_163, f_Law_operatorOf_197, f_Law_operatorOf_192, f_Law_operatorOf_187, f_Law_operatorOf_125, f_Law_operatorOf_120, f_Law_operatorOf_115, f_Law_operatorOf_137, f_Law_operatorOf_132, f_Law_operatorOf_127, f_Law_operatorOf_149, f_Law_operatorOf_144, f_Law_operatorOf_139, f_Law_operatorOf_101, f_Law_operatorOf_96, f_Law_operatorOf_92, f_Law_operatorOf_211, f_Law_operatorOf, h0, h1, h2, e3, e2, e1, e0, if_false, ite_self]
theorem opr_end (lev : Int32) : f_Law_operatorOf lev 0 = 0 := rfl
theorem opr_m1 (lev : Int32) : f_Law_operatorOf lev (-1) = 0 := rfl
/-- an operator's number -/
theorem opr_b (lev c : Int32) (h : ¬ f_Law_operatorOf lev c = 0) : -20 ≤ (f_Law_operatorOf lev c).toInt ∧ (f_Law_operatorOf lev c).toInt ≤ -11 := by
  revert h
  simp only [f_Law_operatorOf_209, f_Law_operatorOf_204, f_Law_operatorOf_199, f_Law_operatorOf_113, f_Law_operatorOf_108, f_Law_operatorOf_103, f_Law_operatorOf_185, f_Law_operatorOf_180, f_Law_operatorOf_175, f_Law_operatorOf_161, f_Law_operatorOf_156, f_Law_operatorOf_151, f_Law_operatorOf_173, f_Law_operatorOf_168, f_Law_operatorOf_163, f_Law_operatorOf_197, f_Law_operatorOf_192, f_Law_operatorOf_187, f_Law_operatorOf_125, f_Law_operatorOf_120, f_Law_operatorOf_115, f_Law_operatorOf_137, f_Law_operatorOf_132, f_Law_operatorOf_127, f_Law_operatorOf_149, f_Law_operatorOf_144, f_Law_operatorOf_139, f_Law_operatorOf_101, f_Law_operatorOf_96, f_Law_operatorOf_92, f_Law_operatorOf_211, f_Law_operatorOf]
  repeat' split
  all_goals first
    | (intro h; exact absurd rfl h)
    | (intro _; decide)
theorem bx_end {T : Nat → Int32} {n a : Nat} (h : ¬ a < n) : bxT T n a = 0 := by unfold bxT; rw [if_neg h]
theorem bx_lt {T : Nat → Int32} {n a : Nat} (h : ¬ bxT T n a = 0) : a < n := Decidable.not_not.mp (fun q => h (bx_end q))
theorem opr_lt {T : Nat → Int32} {n a : Nat} {lev : Int32} (h : ¬ f_Law_operatorOf lev (bxT T n a) = 0) : a < n :=
  bx_lt (fun q => h (by rw [q]; exact opr_end lev))
theorem dig_iff (c : Int32) : f_Law_isDigit c = decide (48 ≤ c.toInt ∧ c.toInt ≤ 57) := by
  simp only [f_Law_isDigit_16, f_Law_isDigit_12, f_Law_isDigit_6, f_Law_isDigit, ti_lt, ti_le, ti_eq, ti_add, ti_sub, ti_neg, ti_lt64, ti_le64, ti_eq64, ti_wide, Int32.reduceToInt, Int64.reduceToInt]
  split
  · symm; rw [decide_eq_false_iff_not]; omega
  · split
    · symm; rw [decide_eq_false_iff_not]; omega
    · symm; rw [decide_eq_true_iff]; omega
theorem dig_lt {T : Nat → Int32} {n a : Nat} (h : f_Law_isDigit (bxT T n a) = true) : a < n :=
  bx_lt (fun q => by rw [q] at h; exact absurd h (by decide))
/-! where a piece ends; how many steps it has; they are plain -/
def plT (st : List Int32) : Prop := ∀ s, s ∈ st → ¬ s = -32
theorem plT.app {A B : List Int32} (a : plT A) (b : plT B) : plT (A ++ B) := fun s h => (List.mem_append.mp h).elim (a s) (b s)
theorem plT.one {s : Int32} (h : ¬ s = -32) : plT [s] := fun t ht => by
  rw [List.mem_singleton] at ht
  rw [ht]; exact h
def wfT (n : Nat) (R : Nat → PR) : Prop := ∀ a, a ≤ n → a ≤ (R a).2.1 ∧ (R a).2.1 ≤ n ∧ ((R a).1 = true → a < (R a).2.1 ∧ (R a).2.2.1.length + a ≤ (R a).2.1 ∧ plT (R a).2.2.1)
theorem wf_ch {T : Nat → Int32} {n : Nat} {lev : Int32} {R : Nat → PR} (h : wfT n R) : ∀ (f a : Nat), a ≤ n → a ≤ (chnT (bxT T n) lev R f a).2.1 ∧ (chnT (bxT T n) lev R f a).2.1 ≤ n ∧ ((chnT (bxT T n) lev R f a).1 = true → (chnT (bxT T n) lev R f a).2.2.1.length + a ≤ (chnT (bxT T n) lev R f a).2.1 ∧ plT (chnT (bxT T n) lev R f a).2.2.1) := by
  intro f
  induction f with
  | zero => intro a ha; exact ⟨Nat.le_refl _, ha, fun _ => ⟨by simp [chnT], fun s hs => by simp [chnT] at hs⟩⟩
  | succ f ih =>
    intro a ha
    unfold chnT
    by_cases e : f_Law_operatorOf lev (bxT T n a) = 0
    · rw [if_pos e]; exact ⟨Nat.le_refl _, ha, fun _ => ⟨by simp, fun s hs => by simp at hs⟩⟩
    · rw [if_neg e]
      have hlt := opr_lt e
      have ho : ¬ f_Law_operatorOf lev (bxT T n a) = -32 := by
        have := opr_b _ _ e
        rw [ti_eq]
        have z : (-32 : Int32).toInt = -32 := rfl
        omega
      obtain ⟨w1, w2, w3⟩ := h (a + 1) (by omega)
      by_cases ok : (R (a + 1)).1 = true
      · rw [if_pos ok]
        obtain ⟨w4, w5, w6⟩ := w3 ok
        by_cases l2 : lev = 2
        · rw [if_pos l2]
          refine ⟨by simp only []; omega, w2, fun _ => ⟨?_, w6.app (plT.one ho)⟩⟩
          simp only [List.length_append, List.length_singleton]; omega
        · rw [if_neg l2]
          obtain ⟨i1, i2, i3⟩ := ih (R (a + 1)).2.1 w2
          refine ⟨by simp only []; omega, i2, fun q => ?_⟩
          obtain ⟨i4, i5⟩ := i3 q
          refine ⟨?_, w6.app ((plT.one ho).app i5)⟩
          simp only [List.length_append, List.length_cons]; omega
      · rw [if_neg ok]
        exact ⟨by simp only []; omega, w2, fun q => absurd q (by simp)⟩
theorem wf_up {T : Nat → Int32} {n : Nat} {lev : Int32} {R : Nat → PR} (h : wfT n R) : wfT n (upT (bxT T n) lev R) := by
  intro a ha
  obtain ⟨w1, w2, w3⟩ := h a ha
  unfold upT
  by_cases ok : (R a).1 = true
  · rw [if_pos ok]
    obtain ⟨w4, w5, w6⟩ := w3 ok
    obtain ⟨i1, i2, i3⟩ := wf_ch (T := T) (lev := lev) h 120 (R a).2.1 w2
    refine ⟨by simp only []; omega, i2, fun q => ?_⟩
    obtain ⟨i4, i5⟩ := i3 q
    refine ⟨by simp only []; omega, ?_, w6.app i5⟩
    simp only [List.length_append]; omega
  · rw [if_neg ok]
    exact ⟨w1, w2, fun q => absurd q (by simp)⟩
theorem wf_lv {T : Nat → Int32} {n : Nat} {R : Nat → PR} (h : wfT n R) : ∀ j, wfT n (lvT (bxT T n) R j) := by
  intro j
  induction j with
  | zero => exact h
  | succ j ih => exact wf_up ih
theorem num_wf {T : Nat → Int32} {n : Nat} : ∀ (f a : Nat) (v : Int32), a ≤ n → a ≤ (numT (bxT T n) f a v).1 ∧ (numT (bxT T n) f a v).1 ≤ n := by
  intro f
  induction f with
  | zero => intro a v h; exact ⟨Nat.le_refl _, h⟩
  | succ f ih =>
    intro a v h
    unfold numT
    by_cases d : f_Law_isDigit (bxT T n a) = true
    · rw [if_pos d]
      have := dig_lt d
      have := ih (a + 1) (v * 10 + (bxT T n a - 48)) (by omega)
      omega
    · rw [if_neg d]; exact ⟨Nat.le_refl _, h⟩
theorem num_val {T : Nat → Int32} {n : Nat} : ∀ (f a : Nat) (v : Int32) (B : Int), 0 ≤ v.toInt → v.toInt < B → B * 10 ^ f ≤ 10000 → 1 ≤ B → 0 ≤ (numT (bxT T n) f a v).2.toInt ∧ (numT (bxT T n) f a v).2.toInt < 10000 := by
  intro f
  induction f with
  | zero => intro a v B h1 h2 h3 _; simp only [numT]; omega
  | succ f ih =>
    intro a v B h1 h2 h3 hB
    have p : (1 : Int) ≤ 10 ^ f := by
      have : 0 < (10 : Int) ^ f := Int.pow_pos (by decide)
      omega
    have e : B * 10 ^ (f + 1) = 10 * B * 10 ^ f := by rw [Int.pow_succ, Int.mul_comm (10 ^ f) 10, ← Int.mul_assoc, Int.mul_comm B 10]
    rw [e] at h3
    have h4 : 10 * B * 1 ≤ 10 * B * 10 ^ f := Int.mul_le_mul_of_nonneg_left p (by omega)
    unfold numT
    by_cases d : f_Law_isDigit (bxT T n a) = true
    · rw [if_pos d]
      rw [dig_iff] at d
      have d2 := of_decide_eq_true d
      have m1 := ti_mul v 10
      have z10 : (10 : Int32).toInt = 10 := rfl
      have z48 : (48 : Int32).toInt = 48 := rfl
      rw [z10] at m1
      have m2 : (v * 10).toInt = v.toInt * 10 := by omega
      have s1 := ti_sub (bxT T n a) 48
      rw [z48] at s1
      have s2 : (bxT T n a - 48).toInt = (bxT T n a).toInt - 48 := by omega
      have t1 := ti_add (v * 10) (bxT T n a - 48)
      rw [m2, s2] at t1
      have t2 : (v * 10 + (bxT T n a - 48)).toInt = v.toInt * 10 + ((bxT T n a).toInt - 48) := by omega
      exact ih (a + 1) _ (10 * B) (by omega) (by omega) h3 (by omega)
    · rw [if_neg d]; simp only []; omega
theorem num_first {T : Nat → Int32} {n a : Nat} (d : f_Law_isDigit (bxT T n a) = true) : a < (numT (bxT T n) 4 a 0).1 := by
  unfold numT
  rw [if_pos d]
  have hlt := dig_lt d
  have h := num_wf (T := T) (n := n) 3 (a + 1) (0 * 10 + (bxT T n a - 48)) (by omega)
  exact Nat.lt_of_lt_of_le (Nat.lt_succ_self a) h.1
theorem num_ok {T : Nat → Int32} {n a : Nat} : 0 ≤ (numT (bxT T n) 4 a 0).2.toInt ∧ (numT (bxT T n) 4 a 0).2.toInt < 10000 :=
  num_val 4 a 0 1 (by decide) (by decide) (by decide) (by decide)
theorem name_b (c : Int32) : -1 ≤ (f_Model_nameOf c).toInt ∧ (f_Model_nameOf c).toInt ≤ 5 := by
  simp only [f_Model_nameOf_64, f_Model_nameOf_60, f_Model_nameOf_62, f_Model_nameOf_70, f_Model_nameOf_66, f_Model_nameOf_68, f_Model_nameOf_72, f_Model_nameOf]
  repeat' split
  all_goals decide
theorem name_lt {T : Nat → Int32} {n a : Nat} (h : 0 ≤ (f_Model_nameOf (bxT T n a)).toInt) : a < n :=
  bx_lt (fun q => by rw [q] at h; exact absurd h (by decide))
theorem wf_at {T : Nat → Int32} {n : Nat} {els : PR} {a : Nat} (ha : a ≤ n) (h : a ≤ els.2.1 ∧ els.2.1 ≤ n ∧ (els.1 = true → a < els.2.1 ∧ els.2.2.1.length + a ≤ els.2.1 ∧ plT els.2.2.1)) :
    a ≤ (atT (bxT T n) els a).2.1 ∧ (atT (bxT T n) els a).2.1 ≤ n ∧ ((atT (bxT T n) els a).1 = true → a < (atT (bxT T n) els a).2.1 ∧ (atT (bxT T n) els a).2.2.1.length + a ≤ (atT (bxT T n) els a).2.1 ∧ plT (atT (bxT T n) els a).2.2.1) := by
  unfold atT
  by_cases d : f_Law_isDigit (bxT T n a) = true
  · rw [if_pos d]
    have h1 := num_first d
    have h2 := num_wf (T := T) (n := n) 4 a 0 ha
    have h3 := num_ok (T := T) (n := n) (a := a)
    refine ⟨h2.1, h2.2, fun _ => ⟨h1, by simp only [List.length_singleton]; omega, plT.one ?_⟩⟩
    rw [ti_eq]
    have z : (-32 : Int32).toInt = -32 := rfl
    omega
  · rw [if_neg d]
    by_cases e : 0 ≤ (f_Model_nameOf (bxT T n a)).toInt
    · rw [if_pos e]
      have h1 := name_lt e
      have h2 := name_b (bxT T n a)
      refine ⟨by simp only []; omega, by simp only []; omega, fun _ => ⟨by simp only []; omega, by simp only [List.length_singleton]; omega, plT.one ?_⟩⟩
      have s := ti_sub (-1) (f_Model_nameOf (bxT T n a))
      have z : (-32 : Int32).toInt = -32 := rfl
      have z1 : (-1 : Int32).toInt = -1 := rfl
      rw [ti_eq]
      omega
    · rw [if_neg e]; exact h
theorem wf_op {T : Nat → Int32} {n : Nat} : ∀ k, wfT n (opT (bxT T n) k) := by
  intro k
  induction k with
  | zero => intro a ha; exact wf_at ha ⟨Nat.le_refl _, ha, fun q => absurd q (by simp)⟩
  | succ k ih =>
    intro a ha
    refine wf_at ha ?_
    by_cases c : bxT T n a = 40
    · rw [if_pos c]
      have hlt : a < n := bx_lt (fun q => by rw [q] at c; exact absurd c (by decide))
      obtain ⟨w1, w2, w3⟩ := wf_lv (T := T) ih 5 (a + 1) (by omega)
      generalize lvT (bxT T n) (opT (bxT T n) k) 5 (a + 1) = r at *
      by_cases ok : r.1 = true
      · rw [if_pos ok]
        obtain ⟨w4, w5, w6⟩ := w3 ok
        by_cases q : bxT T n r.2.1 = 41
        · rw [if_pos q]
          have hlt2 : r.2.1 < n := bx_lt (fun z => by rw [z] at q; exact absurd q (by decide))
          exact ⟨by simp only []; omega, by simp only []; omega, fun _ => ⟨by simp only []; omega, by simp only []; omega, w6⟩⟩
        · rw [if_neg q]; exact ⟨by simp only []; omega, w2, fun z => absurd z (by simp)⟩
      · rw [if_neg ok]; exact ⟨by simp only []; omega, w2, fun z => absurd z (by simp)⟩
    · rw [if_neg c]
      by_cases c2 : bxT T n a = 33 ∨ bxT T n a = 45
      · rw [if_pos c2]
        have hlt : a < n := bx_lt (fun q => by rw [q] at c2; exact absurd c2 (by decide))
        obtain ⟨w1, w2, w3⟩ := ih (a + 1) (by omega)
        generalize opT (bxT T n) k (a + 1) = r at *
        by_cases ok : r.1 = true
        · rw [if_pos ok]
          obtain ⟨w4, w5, w6⟩ := w3 ok
          refine ⟨by simp only []; omega, w2, fun _ => ⟨by simp only []; omega, ?_, w6.app (plT.one ?_)⟩⟩
          · simp only [List.length_append, List.length_singleton]; omega
          · split <;> decide
        · rw [if_neg ok]; exact ⟨by simp only []; omega, w2, fun z => absurd z (by simp)⟩
      · rw [if_neg c2]; exact ⟨Nat.le_refl _, ha, fun z => absurd z (by simp)⟩
theorem wf_ex {T : Nat → Int32} {n : Nat} : wfT n (exT (bxT T n)) := wf_lv (wf_op 6) 5
