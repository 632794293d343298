/-! acts -/
/-- both sides within an act: how many bodies ran, the trace -/
def AW (x0 y0 : am_H) (c : Int) (x y : am_H) : Prop := sx [27, 29] x0 x ∧ (∀ i, i ≠ 3 → x.1 27 i = x0.1 27 i) ∧ sm [29] [15] y0 y ∧ x.1 27 3 = y.1 0 29 ∧ 0 ≤ (y.1 0 29).toInt ∧ (y.1 0 29).toInt ≤ c ∧ ∀ i, i < 24 → x.1 29 i = y.1 15 i
def ACT (x0 y0 : am_H) (d : Int) (F G : am_H → Option (Int32 × am_H)) : Prop := ∀ (x y : am_H) (c : Int), AW x0 y0 c x y → c + d ≤ 1000 → ∃ r x2 y2, F x = some (r, x2) ∧ G y = some (r, y2) ∧ AW x0 y0 (c + d) x2 y2
theorem AW.more {x0 y0 x y : am_H} {c d : Int} (h : AW x0 y0 c x y) (hd : c ≤ d) : AW x0 y0 d x y := ⟨h.1, h.2.1, h.2.2.1, h.2.2.2.1, h.2.2.2.2.1, Int.le_trans h.2.2.2.2.2.1 hd, h.2.2.2.2.2.2⟩
theorem note_AW {x0 y0 x y : am_H} {c : Int} (h : AW x0 y0 c x y) (hc : c < 1000) (v : Int32) : ∃ x2 y2, f_Words_note x v = some x2 ∧ f_Model_begins y v = some y2 ∧ AW x0 y0 (c + 1) x2 y2 := by
  obtain ⟨h1, h2, h3, h4, h5, h6, h7⟩ := h
  have z0 : (0 : Int32).toInt = 0 := rfl
  have z24 : (24 : Int32).toInt = 24 := rfl
  have z1 : (1 : Int32).toInt = 1 := rfl
  have t1 : (y.1 0 29 + 1).toInt = (y.1 0 29).toInt + 1 := by rw [ti_add, z1]; omega
  unfold f_Words_note f_Model_begins
  rw [if_neg (by rw [h4, ti_lt]; omega)]
  unfold f_Words_note_7
  rw [h4]
  by_cases e : 24 ≤ y.1 0 29
  · rw [if_pos e, if_pos e]
    unfold f_Words_note_26 f_Model_begins_19
    rw [h4]
    refine ⟨_, _, rfl, rfl, h1.tr (sx.pI _ _ _ _ (by simp)), fun i hi => by rw [hI1, if_neg (fun q => hi q.2)]; exact h2 i hi, h3.tr (sm.p0 _ _ _ (by simp)), by simp [hI1], ?_, ?_, fun i hi => ?_⟩
    · rw [hI1, if_pos ⟨rfl, rfl⟩, t1]; omega
    · rw [hI1, if_pos ⟨rfl, rfl⟩, t1]; omega
    · rw [hI1, hI1, if_neg (by simp), if_neg (by simp)]; exact h7 i hi
  · rw [if_neg e, if_neg e]; rw [ti_le] at e
    unfold f_Words_note_16 f_Model_begins_9
    rw [h4, if_pos (ok_of (by omega)), if_pos (ok_of (by omega))]
    unfold f_Words_note_26 f_Model_begins_19
    have q1 : (am_pI x 29 (y.1 0 29).toNatClampNeg v).1 27 3 = y.1 0 29 := by rw [← h4]; simp [hI1]
    have q2 : (am_pI y 15 (y.1 0 29).toNatClampNeg v).1 0 29 = y.1 0 29 := by simp [hI1]
    rw [q1, q2]
    refine ⟨_, _, rfl, rfl, (h1.tr (sx.pI _ _ _ _ (by simp))).tr (sx.pI _ _ _ _ (by simp)), fun i hi => ?_, (h3.tr (sm.pI _ _ _ _ (by decide) (by simp))).tr (sm.p0 _ _ _ (by simp)), by simp [hI1], ?_, ?_, fun i hi => ?_⟩
    · rw [hI1, if_neg (fun q => hi q.2), hI1, if_neg (by simp)]; exact h2 i hi
    · rw [hI1, if_pos ⟨rfl, rfl⟩, t1]; omega
    · rw [hI1, if_pos ⟨rfl, rfl⟩, t1]; omega
    · have e7 := h7 i hi
      generalize (y.1 0 29).toNatClampNeg = n at *
      by_cases q : i = n <;> simp [hI1, q]
      exact e7
theorem call_note {F : Nat} {x x1 : am_H} {b k does v dep own H nb ab : Int32} (h1 : f_Words_holderOf k does = some H) (h2 : dep.toInt ≤ 40) (h3 : 0 ≤ H.toInt ∧ H.toInt ≤ 7 ∧ 0 ≤ (H * 4 + does).toInt ∧ (H * 4 + does).toInt < 32) (h4 : tv_OWN (H * 4 + does) = nb) (h5 : tv_ABOVE H = ab) (hn : f_Words_note x nb = some x1) (hk : f_Words_kindOf x1 b = some own) : (g_Words_call (F + 2)).1 x b k does v dep = f_Words_runBody_23 (g_Words_call F) x1 nb b v (dep + 1) own ab := by
  have z0 : (0 : Int32).toInt = 0 := rfl
  have z40 : (40 : Int32).toInt = 40 := rfl
  have z32 : (32 : Int32).toInt = 32 := rfl
  have hid : ∀ o : Option (Int32 × am_H), (o.bind fun p => f_Words_call_72 (g_Words_call (F + 1)) p.2 p.1) = o := by
    intro o; cases o <;> rfl
  show f_Words_call_0 (g_Words_call (F + 1)) x b k does v dep = _
  unfold f_Words_call_0
  rw [h1, Option.bind_some]
  unfold f_Words_call_5
  rw [if_neg (by rw [ti_lt]; omega)]
  unfold f_Words_call_22
  rw [if_neg (by rw [ti_lt]; omega)]
  unfold f_Words_call_27
  rw [if_neg (by rw [ti_lt]; omega)]
  unfold f_Words_call_32
  rw [if_pos (by rw [ti_lt]; omega)]
  unfold f_Words_call_43
  rw [if_pos (ok_of (by omega)), h4, hn, Option.bind_some]
  unfold f_Words_call_53
  rw [if_pos (ok_of (by omega)), h4, hid]
  show f_Words_runBody_0 (g_Words_call F) x1 nb b H v (dep + 1) = _
  unfold f_Words_runBody_0
  rw [hk, Option.bind_some]
  unfold f_Words_runBody_5
  rw [v_Words_isKind, decide_eq_true (show 0 ≤ H.toInt ∧ H.toInt ≤ 7 by omega)]
  unfold f_Words_runBody_11
  rw [if_pos rfl]
  unfold f_Words_runBody_14
  rw [if_pos (ok_of (by omega)), h5]
/-- the word that acts -/
def WD (x0 y0 : am_H) (b own : Int32) : Prop := (∀ x : am_H, x.1 27 2 = x0.1 27 2 → x.1 28 = x0.1 28 → f_Words_kindOf x b = some own) ∧ y0.1 0 30 = own ∧ y0.1 0 31 = b ∧ 0 ≤ own.toInt ∧ own.toInt ≤ 7
theorem AW.k {x0 y0 x y : am_H} {c : Int} {b own : Int32} (h : AW x0 y0 c x y) (hw : WD x0 y0 b own) : f_Words_kindOf x b = some own ∧ y.1 0 30 = own ∧ y.1 0 31 = b :=
  ⟨hw.1 x (h.2.1 2 (by decide)) (h.1 28 (by decide)).1, by rw [h.2.2.1.1 30 (by simp)]; exact hw.2.1, by rw [h.2.2.1.1 31 (by simp)]; exact hw.2.2.1⟩
theorem d_next {dep : Int32} {m M : Int} (h : 0 ≤ dep.toInt ∧ dep.toInt ≤ m) (hm : m < M ∧ M < 1000) : 0 ≤ (dep + 1).toInt ∧ (dep + 1).toInt ≤ M := by
  have z1 : (1 : Int32).toInt = 1 := rfl
  have e := ti_add dep 1
  omega
theorem k_8 {k : Int32} (h : 0 ≤ k.toInt ∧ k.toInt ≤ 7) : k = 0 ∨ k = 1 ∨ k = 2 ∨ k = 3 ∨ k = 4 ∨ k = 5 ∨ k = 6 ∨ k = 7 := by
  have z0 : (0 : Int32).toInt = 0 := rfl
  have z1 : (1 : Int32).toInt = 1 := rfl
  have z2 : (2 : Int32).toInt = 2 := rfl
  have z3 : (3 : Int32).toInt = 3 := rfl
  have z4 : (4 : Int32).toInt = 4 := rfl
  have z5 : (5 : Int32).toInt = 5 := rfl
  have z6 : (6 : Int32).toInt = 6 := rfl
  have z7 : (7 : Int32).toInt = 7 := rfl
  simp only [ti_eq]
  omega
theorem act_says0 {x0 y0 : am_H} {b own : Int32} (hw : WD x0 y0 b own) (F G : Nat) (v dep : Int32) (hd : 0 ≤ dep.toInt ∧ dep.toInt ≤ 39) : ACT x0 y0 1 (fun x => (g_Words_call (F + 2)).1 x b 0 0 v dep) (fun y => g_Model_saysAs (G + 2) y 0 v) := by
  intro x y c hA hc
  · show ∃ r x2 y2, (g_Words_call (F + 2)).1 x b 0 0 v dep = some (r, x2) ∧ g_Model_saysAs (G + 2) y 0 v = some (r, y2) ∧ _
    obtain ⟨x1, y1, n1, n2, hA1⟩ := note_AW hA (by omega) 1
    obtain ⟨k1, k2, k3⟩ := hA1.k hw
    have hC := call_note (F := F) (v := v) (dep := dep) (show f_Words_holderOf 0 0 = some 0 by decide +kernel) (by omega) (by decide) (show tv_OWN (0 * 4 + 0) = 1 by decide) (show tv_ABOVE 0 = (-1) by decide) n1 k1
    rw [hC]
    have hM : g_Model_saysAs (G + 2) y 0 v = some (v + y1.1 0 31, y1) := by
      show (f_Model_begins y 1).bind _ = _
      rw [n2]; rfl
    rw [hM, k3]
    exact ⟨_, x1, y1, rfl, rfl, hA1.more (by omega)⟩
theorem act_says1 {x0 y0 : am_H} {b own : Int32} (hw : WD x0 y0 b own) (F G : Nat) (sub0 : ∀ (v dep : Int32), 0 ≤ dep.toInt ∧ dep.toInt ≤ 39 → ACT x0 y0 1 (fun x => (g_Words_call F).1 x b 0 0 v dep) (fun y => g_Model_saysAs (G + 1) y 0 v)) (v dep : Int32) (hd : 0 ≤ dep.toInt ∧ dep.toInt ≤ 38) : ACT x0 y0 2 (fun x => (g_Words_call (F + 2)).1 x b 1 0 v dep) (fun y => g_Model_saysAs (G + 2) y 1 v) := by
  intro x y c hA hc
  · show ∃ r x2 y2, (g_Words_call (F + 2)).1 x b 1 0 v dep = some (r, x2) ∧ g_Model_saysAs (G + 2) y 1 v = some (r, y2) ∧ _
    obtain ⟨x1, y1, n1, n2, hA1⟩ := note_AW hA (by omega) 20
    obtain ⟨k1, k2, k3⟩ := hA1.k hw
    have hC := call_note (F := F) (v := v) (dep := dep) (show f_Words_holderOf 1 0 = some 1 by decide +kernel) (by omega) (by decide) (show tv_OWN (1 * 4 + 0) = 20 by decide) (show tv_ABOVE 1 = (0) by decide) n1 k1
    rw [hC]
    obtain ⟨r, x2, y2, s1, s2, s3⟩ := sub0 (v) (dep + 1) (d_next hd (by omega)) x1 y1 (c + 1) hA1 (by omega)
    dsimp only at s1 s2
    have hX : f_Words_runBody_23 (g_Words_call F) x1 20 b v (dep + 1) own (0) = ((g_Words_call F).1 x1 b 0 0 (v) (dep + 1)).bind fun p => some ((fun y0 : Int32 => y0 + 3) p.1, p.2) := rfl
    have hM : g_Model_saysAs (G + 2) y 1 v = (g_Model_saysAs (G + 1) y1 0 (v)).bind fun p => some ((fun y0 : Int32 => y0 + 3) p.1, p.2) := by
      show (f_Model_begins y 20).bind _ = _
      rw [n2]; rfl
    rw [hX, hM, s1, s2]
    exact ⟨_, x2, y2, rfl, rfl, s3.more (by omega)⟩
theorem act_says2 {x0 y0 : am_H} {b own : Int32} (hw : WD x0 y0 b own) (F G : Nat) (v dep : Int32) (hd : 0 ≤ dep.toInt ∧ dep.toInt ≤ 39) : ACT x0 y0 1 (fun x => (g_Words_call (F + 2)).1 x b 2 0 v dep) (fun y => g_Model_saysAs (G + 2) y 2 v) := by
  intro x y c hA hc
  · show ∃ r x2 y2, (g_Words_call (F + 2)).1 x b 2 0 v dep = some (r, x2) ∧ g_Model_saysAs (G + 2) y 2 v = some (r, y2) ∧ _
    obtain ⟨x1, y1, n1, n2, hA1⟩ := note_AW hA (by omega) 1
    obtain ⟨k1, k2, k3⟩ := hA1.k hw
    have hC := call_note (F := F) (v := v) (dep := dep) (show f_Words_holderOf 2 0 = some 0 by decide +kernel) (by omega) (by decide) (show tv_OWN (0 * 4 + 0) = 1 by decide) (show tv_ABOVE 0 = (-1) by decide) n1 k1
    rw [hC]
    have hM : g_Model_saysAs (G + 2) y 2 v = some (v + y1.1 0 31, y1) := by
      show (f_Model_begins y 1).bind _ = _
      rw [n2]; rfl
    rw [hM, k3]
    exact ⟨_, x1, y1, rfl, rfl, hA1.more (by omega)⟩
theorem act_says3 {x0 y0 : am_H} {b own : Int32} (hw : WD x0 y0 b own) (F G : Nat) (v dep : Int32) (hd : 0 ≤ dep.toInt ∧ dep.toInt ≤ 39) : ACT x0 y0 1 (fun x => (g_Words_call (F + 2)).1 x b 3 0 v dep) (fun y => g_Model_saysAs (G + 2) y 3 v) := by
  intro x y c hA hc
  · show ∃ r x2 y2, (g_Words_call (F + 2)).1 x b 3 0 v dep = some (r, x2) ∧ g_Model_saysAs (G + 2) y 3 v = some (r, y2) ∧ _
    obtain ⟨x1, y1, n1, n2, hA1⟩ := note_AW hA (by omega) 1
    obtain ⟨k1, k2, k3⟩ := hA1.k hw
    have hC := call_note (F := F) (v := v) (dep := dep) (show f_Words_holderOf 3 0 = some 0 by decide +kernel) (by omega) (by decide) (show tv_OWN (0 * 4 + 0) = 1 by decide) (show tv_ABOVE 0 = (-1) by decide) n1 k1
    rw [hC]
    have hM : g_Model_saysAs (G + 2) y 3 v = some (v + y1.1 0 31, y1) := by
      show (f_Model_begins y 1).bind _ = _
      rw [n2]; rfl
    rw [hM, k3]
    exact ⟨_, x1, y1, rfl, rfl, hA1.more (by omega)⟩
theorem act_says4 {x0 y0 : am_H} {b own : Int32} (hw : WD x0 y0 b own) (F G : Nat) (sub0 : ∀ (v dep : Int32), 0 ≤ dep.toInt ∧ dep.toInt ≤ 39 → ACT x0 y0 1 (fun x => (g_Words_call F).1 x b 0 0 v dep) (fun y => g_Model_saysAs (G + 1) y 0 v)) (v dep : Int32) (hd : 0 ≤ dep.toInt ∧ dep.toInt ≤ 38) : ACT x0 y0 2 (fun x => (g_Words_call (F + 2)).1 x b 4 0 v dep) (fun y => g_Model_saysAs (G + 2) y 4 v) := by
  intro x y c hA hc
  · show ∃ r x2 y2, (g_Words_call (F + 2)).1 x b 4 0 v dep = some (r, x2) ∧ g_Model_saysAs (G + 2) y 4 v = some (r, y2) ∧ _
    obtain ⟨x1, y1, n1, n2, hA1⟩ := note_AW hA (by omega) 20
    obtain ⟨k1, k2, k3⟩ := hA1.k hw
    have hC := call_note (F := F) (v := v) (dep := dep) (show f_Words_holderOf 4 0 = some 1 by decide +kernel) (by omega) (by decide) (show tv_OWN (1 * 4 + 0) = 20 by decide) (show tv_ABOVE 1 = (0) by decide) n1 k1
    rw [hC]
    obtain ⟨r, x2, y2, s1, s2, s3⟩ := sub0 (v) (dep + 1) (d_next hd (by omega)) x1 y1 (c + 1) hA1 (by omega)
    dsimp only at s1 s2
    have hX : f_Words_runBody_23 (g_Words_call F) x1 20 b v (dep + 1) own (0) = ((g_Words_call F).1 x1 b 0 0 (v) (dep + 1)).bind fun p => some ((fun y0 : Int32 => y0 + 3) p.1, p.2) := rfl
    have hM : g_Model_saysAs (G + 2) y 4 v = (g_Model_saysAs (G + 1) y1 0 (v)).bind fun p => some ((fun y0 : Int32 => y0 + 3) p.1, p.2) := by
      show (f_Model_begins y 20).bind _ = _
      rw [n2]; rfl
    rw [hX, hM, s1, s2]
    exact ⟨_, x2, y2, rfl, rfl, s3.more (by omega)⟩
theorem act_says5 {x0 y0 : am_H} {b own : Int32} (hw : WD x0 y0 b own) (F G : Nat) (v dep : Int32) (hd : 0 ≤ dep.toInt ∧ dep.toInt ≤ 39) : ACT x0 y0 1 (fun x => (g_Words_call (F + 2)).1 x b 5 0 v dep) (fun y => g_Model_saysAs (G + 2) y 5 v) := by
  intro x y c hA hc
  · show ∃ r x2 y2, (g_Words_call (F + 2)).1 x b 5 0 v dep = some (r, x2) ∧ g_Model_saysAs (G + 2) y 5 v = some (r, y2) ∧ _
    obtain ⟨x1, y1, n1, n2, hA1⟩ := note_AW hA (by omega) 1
    obtain ⟨k1, k2, k3⟩ := hA1.k hw
    have hC := call_note (F := F) (v := v) (dep := dep) (show f_Words_holderOf 5 0 = some 0 by decide +kernel) (by omega) (by decide) (show tv_OWN (0 * 4 + 0) = 1 by decide) (show tv_ABOVE 0 = (-1) by decide) n1 k1
    rw [hC]
    have hM : g_Model_saysAs (G + 2) y 5 v = some (v + y1.1 0 31, y1) := by
      show (f_Model_begins y 1).bind _ = _
      rw [n2]; rfl
    rw [hM, k3]
    exact ⟨_, x1, y1, rfl, rfl, hA1.more (by omega)⟩
theorem act_says6 {x0 y0 : am_H} {b own : Int32} (hw : WD x0 y0 b own) (F G : Nat) (sub0 : ∀ (v dep : Int32), 0 ≤ dep.toInt ∧ dep.toInt ≤ 39 → ACT x0 y0 1 (fun x => (g_Words_call F).1 x b 0 0 v dep) (fun y => g_Model_saysAs (G + 1) y 0 v)) (v dep : Int32) (hd : 0 ≤ dep.toInt ∧ dep.toInt ≤ 38) : ACT x0 y0 2 (fun x => (g_Words_call (F + 2)).1 x b 6 0 v dep) (fun y => g_Model_saysAs (G + 2) y 6 v) := by
  intro x y c hA hc
  · show ∃ r x2 y2, (g_Words_call (F + 2)).1 x b 6 0 v dep = some (r, x2) ∧ g_Model_saysAs (G + 2) y 6 v = some (r, y2) ∧ _
    obtain ⟨x1, y1, n1, n2, hA1⟩ := note_AW hA (by omega) 70
    obtain ⟨k1, k2, k3⟩ := hA1.k hw
    have hC := call_note (F := F) (v := v) (dep := dep) (show f_Words_holderOf 6 0 = some 6 by decide +kernel) (by omega) (by decide) (show tv_OWN (6 * 4 + 0) = 70 by decide) (show tv_ABOVE 6 = (0) by decide) n1 k1
    rw [hC]
    obtain ⟨r, x2, y2, s1, s2, s3⟩ := sub0 (v) (dep + 1) (d_next hd (by omega)) x1 y1 (c + 1) hA1 (by omega)
    dsimp only at s1 s2
    have hX : f_Words_runBody_23 (g_Words_call F) x1 70 b v (dep + 1) own (0) = ((g_Words_call F).1 x1 b 0 0 (v) (dep + 1)).bind fun p => some ((fun y0 : Int32 => y0 * 2) p.1, p.2) := rfl
    have hM : g_Model_saysAs (G + 2) y 6 v = (g_Model_saysAs (G + 1) y1 0 (v)).bind fun p => some ((fun y0 : Int32 => y0 * 2) p.1, p.2) := by
      show (f_Model_begins y 70).bind _ = _
      rw [n2]; rfl
    rw [hX, hM, s1, s2]
    exact ⟨_, x2, y2, rfl, rfl, s3.more (by omega)⟩
theorem act_says7 {x0 y0 : am_H} {b own : Int32} (hw : WD x0 y0 b own) (F G : Nat) (sub0 : ∀ (v dep : Int32), 0 ≤ dep.toInt ∧ dep.toInt ≤ 39 → ACT x0 y0 1 (fun x => (g_Words_call F).1 x b 0 0 v dep) (fun y => g_Model_saysAs (G + 1) y 0 v)) (v dep : Int32) (hd : 0 ≤ dep.toInt ∧ dep.toInt ≤ 38) : ACT x0 y0 2 (fun x => (g_Words_call (F + 2)).1 x b 7 0 v dep) (fun y => g_Model_saysAs (G + 2) y 7 v) := by
  intro x y c hA hc
  · show ∃ r x2 y2, (g_Words_call (F + 2)).1 x b 7 0 v dep = some (r, x2) ∧ g_Model_saysAs (G + 2) y 7 v = some (r, y2) ∧ _
    obtain ⟨x1, y1, n1, n2, hA1⟩ := note_AW hA (by omega) 20
    obtain ⟨k1, k2, k3⟩ := hA1.k hw
    have hC := call_note (F := F) (v := v) (dep := dep) (show f_Words_holderOf 7 0 = some 1 by decide +kernel) (by omega) (by decide) (show tv_OWN (1 * 4 + 0) = 20 by decide) (show tv_ABOVE 1 = (0) by decide) n1 k1
    rw [hC]
    obtain ⟨r, x2, y2, s1, s2, s3⟩ := sub0 (v) (dep + 1) (d_next hd (by omega)) x1 y1 (c + 1) hA1 (by omega)
    dsimp only at s1 s2
    have hX : f_Words_runBody_23 (g_Words_call F) x1 20 b v (dep + 1) own (0) = ((g_Words_call F).1 x1 b 0 0 (v) (dep + 1)).bind fun p => some ((fun y0 : Int32 => y0 + 3) p.1, p.2) := rfl
    have hM : g_Model_saysAs (G + 2) y 7 v = (g_Model_saysAs (G + 1) y1 0 (v)).bind fun p => some ((fun y0 : Int32 => y0 + 3) p.1, p.2) := by
      show (f_Model_begins y 20).bind _ = _
      rw [n2]; rfl
    rw [hX, hM, s1, s2]
    exact ⟨_, x2, y2, rfl, rfl, s3.more (by omega)⟩
theorem act_hits0 {x0 y0 : am_H} {b own : Int32} (hw : WD x0 y0 b own) (F G : Nat) (says : ∀ (v dep : Int32), 0 ≤ dep.toInt ∧ dep.toInt ≤ 38 → ACT x0 y0 2 (fun x => (g_Words_call F).1 x b own 0 v dep) (fun y => f_Model_saysAs y own v)) (v dep : Int32) (hd : 0 ≤ dep.toInt ∧ dep.toInt ≤ 37) : ACT x0 y0 3 (fun x => (g_Words_call (F + 2)).1 x b 0 1 v dep) (fun y => g_Model_hitsAs (G + 2) y 0 v) := by
  intro x y c hA hc
  · show ∃ r x2 y2, (g_Words_call (F + 2)).1 x b 0 1 v dep = some (r, x2) ∧ g_Model_hitsAs (G + 2) y 0 v = some (r, y2) ∧ _
    obtain ⟨x1, y1, n1, n2, hA1⟩ := note_AW hA (by omega) 10
    obtain ⟨k1, k2, k3⟩ := hA1.k hw
    have hC := call_note (F := F) (v := v) (dep := dep) (show f_Words_holderOf 0 1 = some 0 by decide +kernel) (by omega) (by decide) (show tv_OWN (0 * 4 + 1) = 10 by decide) (show tv_ABOVE 0 = (-1) by decide) n1 k1
    rw [hC]
    obtain ⟨r, x2, y2, s1, s2, s3⟩ := says v (dep + 1) (d_next hd (by omega)) x1 y1 (c + 1) hA1 (by omega)
    dsimp only at s1 s2
    have hX : f_Words_runBody_23 (g_Words_call F) x1 10 b v (dep + 1) own (-1) = ((g_Words_call F).1 x1 b own 0 v (dep + 1)).bind fun p => some (p.1 * 2, p.2) := rfl
    have hM : g_Model_hitsAs (G + 2) y 0 v = (f_Model_saysAs y1 own v).bind fun p => some (p.1 * 2, p.2) := by
      show (f_Model_begins y 10).bind _ = _
      rw [n2, ← k2]; rfl
    rw [hX, hM, s1, s2]
    exact ⟨_, x2, y2, rfl, rfl, s3.more (by omega)⟩
theorem act_hits1 {x0 y0 : am_H} {b own : Int32} (hw : WD x0 y0 b own) (F G : Nat) (says : ∀ (v dep : Int32), 0 ≤ dep.toInt ∧ dep.toInt ≤ 38 → ACT x0 y0 2 (fun x => (g_Words_call F).1 x b own 0 v dep) (fun y => f_Model_saysAs y own v)) (v dep : Int32) (hd : 0 ≤ dep.toInt ∧ dep.toInt ≤ 37) : ACT x0 y0 3 (fun x => (g_Words_call (F + 2)).1 x b 1 1 v dep) (fun y => g_Model_hitsAs (G + 2) y 1 v) := by
  intro x y c hA hc
  · show ∃ r x2 y2, (g_Words_call (F + 2)).1 x b 1 1 v dep = some (r, x2) ∧ g_Model_hitsAs (G + 2) y 1 v = some (r, y2) ∧ _
    obtain ⟨x1, y1, n1, n2, hA1⟩ := note_AW hA (by omega) 10
    obtain ⟨k1, k2, k3⟩ := hA1.k hw
    have hC := call_note (F := F) (v := v) (dep := dep) (show f_Words_holderOf 1 1 = some 0 by decide +kernel) (by omega) (by decide) (show tv_OWN (0 * 4 + 1) = 10 by decide) (show tv_ABOVE 0 = (-1) by decide) n1 k1
    rw [hC]
    obtain ⟨r, x2, y2, s1, s2, s3⟩ := says v (dep + 1) (d_next hd (by omega)) x1 y1 (c + 1) hA1 (by omega)
    dsimp only at s1 s2
    have hX : f_Words_runBody_23 (g_Words_call F) x1 10 b v (dep + 1) own (-1) = ((g_Words_call F).1 x1 b own 0 v (dep + 1)).bind fun p => some (p.1 * 2, p.2) := rfl
    have hM : g_Model_hitsAs (G + 2) y 1 v = (f_Model_saysAs y1 own v).bind fun p => some (p.1 * 2, p.2) := by
      show (f_Model_begins y 10).bind _ = _
      rw [n2, ← k2]; rfl
    rw [hX, hM, s1, s2]
    exact ⟨_, x2, y2, rfl, rfl, s3.more (by omega)⟩
theorem act_hits2 {x0 y0 : am_H} {b own : Int32} (hw : WD x0 y0 b own) (F G : Nat) (sub0 : ∀ (v dep : Int32), 0 ≤ dep.toInt ∧ dep.toInt ≤ 37 → ACT x0 y0 3 (fun x => (g_Words_call F).1 x b 0 1 v dep) (fun y => g_Model_hitsAs (G + 1) y 0 v)) (v dep : Int32) (hd : 0 ≤ dep.toInt ∧ dep.toInt ≤ 36) : ACT x0 y0 4 (fun x => (g_Words_call (F + 2)).1 x b 2 1 v dep) (fun y => g_Model_hitsAs (G + 2) y 2 v) := by
  intro x y c hA hc
  · show ∃ r x2 y2, (g_Words_call (F + 2)).1 x b 2 1 v dep = some (r, x2) ∧ g_Model_hitsAs (G + 2) y 2 v = some (r, y2) ∧ _
    obtain ⟨x1, y1, n1, n2, hA1⟩ := note_AW hA (by omega) 30
    obtain ⟨k1, k2, k3⟩ := hA1.k hw
    have hC := call_note (F := F) (v := v) (dep := dep) (show f_Words_holderOf 2 1 = some 2 by decide +kernel) (by omega) (by decide) (show tv_OWN (2 * 4 + 1) = 30 by decide) (show tv_ABOVE 2 = (0) by decide) n1 k1
    rw [hC]
    obtain ⟨r, x2, y2, s1, s2, s3⟩ := sub0 (v) (dep + 1) (d_next hd (by omega)) x1 y1 (c + 1) hA1 (by omega)
    dsimp only at s1 s2
    have hX : f_Words_runBody_23 (g_Words_call F) x1 30 b v (dep + 1) own (0) = ((g_Words_call F).1 x1 b 0 1 (v) (dep + 1)).bind fun p => some ((fun y0 : Int32 => -y0) p.1, p.2) := rfl
    have hM : g_Model_hitsAs (G + 2) y 2 v = (g_Model_hitsAs (G + 1) y1 0 (v)).bind fun p => some ((fun y0 : Int32 => -y0) p.1, p.2) := by
      show (f_Model_begins y 30).bind _ = _
      rw [n2]; rfl
    rw [hX, hM, s1, s2]
    exact ⟨_, x2, y2, rfl, rfl, s3.more (by omega)⟩
theorem act_hits3 {x0 y0 : am_H} {b own : Int32} (hw : WD x0 y0 b own) (F G : Nat) (sub2 : ∀ (v dep : Int32), 0 ≤ dep.toInt ∧ dep.toInt ≤ 36 → ACT x0 y0 4 (fun x => (g_Words_call F).1 x b 2 1 v dep) (fun y => g_Model_hitsAs (G + 1) y 2 v)) (v dep : Int32) (hd : 0 ≤ dep.toInt ∧ dep.toInt ≤ 35) : ACT x0 y0 5 (fun x => (g_Words_call (F + 2)).1 x b 3 1 v dep) (fun y => g_Model_hitsAs (G + 2) y 3 v) := by
  intro x y c hA hc
  · show ∃ r x2 y2, (g_Words_call (F + 2)).1 x b 3 1 v dep = some (r, x2) ∧ g_Model_hitsAs (G + 2) y 3 v = some (r, y2) ∧ _
    obtain ⟨x1, y1, n1, n2, hA1⟩ := note_AW hA (by omega) 41
    obtain ⟨k1, k2, k3⟩ := hA1.k hw
    have hC := call_note (F := F) (v := v) (dep := dep) (show f_Words_holderOf 3 1 = some 3 by decide +kernel) (by omega) (by decide) (show tv_OWN (3 * 4 + 1) = 41 by decide) (show tv_ABOVE 3 = (2) by decide) n1 k1
    rw [hC]
    obtain ⟨r, x2, y2, s1, s2, s3⟩ := sub2 (v + 1) (dep + 1) (d_next hd (by omega)) x1 y1 (c + 1) hA1 (by omega)
    dsimp only at s1 s2
    have hX : f_Words_runBody_23 (g_Words_call F) x1 41 b v (dep + 1) own (2) = ((g_Words_call F).1 x1 b 2 1 (v + 1) (dep + 1)).bind fun p => some ((fun y0 : Int32 => y0) p.1, p.2) := rfl
    have hM : g_Model_hitsAs (G + 2) y 3 v = (g_Model_hitsAs (G + 1) y1 2 (v + 1)).bind fun p => some ((fun y0 : Int32 => y0) p.1, p.2) := by
      show (f_Model_begins y 41).bind _ = _
      rw [n2]; rfl
    rw [hX, hM, s1, s2]
    exact ⟨_, x2, y2, rfl, rfl, s3.more (by omega)⟩
theorem act_hits4 {x0 y0 : am_H} {b own : Int32} (hw : WD x0 y0 b own) (F G : Nat) (says : ∀ (v dep : Int32), 0 ≤ dep.toInt ∧ dep.toInt ≤ 38 → ACT x0 y0 2 (fun x => (g_Words_call F).1 x b own 0 v dep) (fun y => f_Model_saysAs y own v)) (v dep : Int32) (hd : 0 ≤ dep.toInt ∧ dep.toInt ≤ 37) : ACT x0 y0 3 (fun x => (g_Words_call (F + 2)).1 x b 4 1 v dep) (fun y => g_Model_hitsAs (G + 2) y 4 v) := by
  intro x y c hA hc
  · show ∃ r x2 y2, (g_Words_call (F + 2)).1 x b 4 1 v dep = some (r, x2) ∧ g_Model_hitsAs (G + 2) y 4 v = some (r, y2) ∧ _
    obtain ⟨x1, y1, n1, n2, hA1⟩ := note_AW hA (by omega) 10
    obtain ⟨k1, k2, k3⟩ := hA1.k hw
    have hC := call_note (F := F) (v := v) (dep := dep) (show f_Words_holderOf 4 1 = some 0 by decide +kernel) (by omega) (by decide) (show tv_OWN (0 * 4 + 1) = 10 by decide) (show tv_ABOVE 0 = (-1) by decide) n1 k1
    rw [hC]
    obtain ⟨r, x2, y2, s1, s2, s3⟩ := says v (dep + 1) (d_next hd (by omega)) x1 y1 (c + 1) hA1 (by omega)
    dsimp only at s1 s2
    have hX : f_Words_runBody_23 (g_Words_call F) x1 10 b v (dep + 1) own (-1) = ((g_Words_call F).1 x1 b own 0 v (dep + 1)).bind fun p => some (p.1 * 2, p.2) := rfl
    have hM : g_Model_hitsAs (G + 2) y 4 v = (f_Model_saysAs y1 own v).bind fun p => some (p.1 * 2, p.2) := by
      show (f_Model_begins y 10).bind _ = _
      rw [n2, ← k2]; rfl
    rw [hX, hM, s1, s2]
    exact ⟨_, x2, y2, rfl, rfl, s3.more (by omega)⟩
theorem act_hits5 {x0 y0 : am_H} {b own : Int32} (hw : WD x0 y0 b own) (F G : Nat) (sub2 : ∀ (v dep : Int32), 0 ≤ dep.toInt ∧ dep.toInt ≤ 36 → ACT x0 y0 4 (fun x => (g_Words_call F).1 x b 2 1 v dep) (fun y => g_Model_hitsAs (G + 1) y 2 v)) (v dep : Int32) (hd : 0 ≤ dep.toInt ∧ dep.toInt ≤ 35) : ACT x0 y0 5 (fun x => (g_Words_call (F + 2)).1 x b 5 1 v dep) (fun y => g_Model_hitsAs (G + 2) y 5 v) := by
  intro x y c hA hc
  · show ∃ r x2 y2, (g_Words_call (F + 2)).1 x b 5 1 v dep = some (r, x2) ∧ g_Model_hitsAs (G + 2) y 5 v = some (r, y2) ∧ _
    obtain ⟨x1, y1, n1, n2, hA1⟩ := note_AW hA (by omega) 41
    obtain ⟨k1, k2, k3⟩ := hA1.k hw
    have hC := call_note (F := F) (v := v) (dep := dep) (show f_Words_holderOf 5 1 = some 3 by decide +kernel) (by omega) (by decide) (show tv_OWN (3 * 4 + 1) = 41 by decide) (show tv_ABOVE 3 = (2) by decide) n1 k1
    rw [hC]
    obtain ⟨r, x2, y2, s1, s2, s3⟩ := sub2 (v + 1) (dep + 1) (d_next hd (by omega)) x1 y1 (c + 1) hA1 (by omega)
    dsimp only at s1 s2
    have hX : f_Words_runBody_23 (g_Words_call F) x1 41 b v (dep + 1) own (2) = ((g_Words_call F).1 x1 b 2 1 (v + 1) (dep + 1)).bind fun p => some ((fun y0 : Int32 => y0) p.1, p.2) := rfl
    have hM : g_Model_hitsAs (G + 2) y 5 v = (g_Model_hitsAs (G + 1) y1 2 (v + 1)).bind fun p => some ((fun y0 : Int32 => y0) p.1, p.2) := by
      show (f_Model_begins y 41).bind _ = _
      rw [n2]; rfl
    rw [hX, hM, s1, s2]
    exact ⟨_, x2, y2, rfl, rfl, s3.more (by omega)⟩
theorem act_hits6 {x0 y0 : am_H} {b own : Int32} (hw : WD x0 y0 b own) (F G : Nat) (says : ∀ (v dep : Int32), 0 ≤ dep.toInt ∧ dep.toInt ≤ 38 → ACT x0 y0 2 (fun x => (g_Words_call F).1 x b own 0 v dep) (fun y => f_Model_saysAs y own v)) (v dep : Int32) (hd : 0 ≤ dep.toInt ∧ dep.toInt ≤ 37) : ACT x0 y0 3 (fun x => (g_Words_call (F + 2)).1 x b 6 1 v dep) (fun y => g_Model_hitsAs (G + 2) y 6 v) := by
  intro x y c hA hc
  · show ∃ r x2 y2, (g_Words_call (F + 2)).1 x b 6 1 v dep = some (r, x2) ∧ g_Model_hitsAs (G + 2) y 6 v = some (r, y2) ∧ _
    obtain ⟨x1, y1, n1, n2, hA1⟩ := note_AW hA (by omega) 10
    obtain ⟨k1, k2, k3⟩ := hA1.k hw
    have hC := call_note (F := F) (v := v) (dep := dep) (show f_Words_holderOf 6 1 = some 0 by decide +kernel) (by omega) (by decide) (show tv_OWN (0 * 4 + 1) = 10 by decide) (show tv_ABOVE 0 = (-1) by decide) n1 k1
    rw [hC]
    obtain ⟨r, x2, y2, s1, s2, s3⟩ := says v (dep + 1) (d_next hd (by omega)) x1 y1 (c + 1) hA1 (by omega)
    dsimp only at s1 s2
    have hX : f_Words_runBody_23 (g_Words_call F) x1 10 b v (dep + 1) own (-1) = ((g_Words_call F).1 x1 b own 0 v (dep + 1)).bind fun p => some (p.1 * 2, p.2) := rfl
    have hM : g_Model_hitsAs (G + 2) y 6 v = (f_Model_saysAs y1 own v).bind fun p => some (p.1 * 2, p.2) := by
      show (f_Model_begins y 10).bind _ = _
      rw [n2, ← k2]; rfl
    rw [hX, hM, s1, s2]
    exact ⟨_, x2, y2, rfl, rfl, s3.more (by omega)⟩
theorem act_hits7 {x0 y0 : am_H} {b own : Int32} (hw : WD x0 y0 b own) (F G : Nat) (sub4 : ∀ (v dep : Int32), 0 ≤ dep.toInt ∧ dep.toInt ≤ 37 → ACT x0 y0 3 (fun x => (g_Words_call F).1 x b 4 1 v dep) (fun y => g_Model_hitsAs (G + 1) y 4 v)) (lies : ∀ (v dep : Int32), 0 ≤ dep.toInt ∧ dep.toInt ≤ 36 → ACT x0 y0 4 (fun x => (g_Words_call F).1 x b own 2 v dep) (fun y => f_Model_liesAs y own v)) (v dep : Int32) (hd : 0 ≤ dep.toInt ∧ dep.toInt ≤ 35) : ACT x0 y0 8 (fun x => (g_Words_call (F + 2)).1 x b 7 1 v dep) (fun y => g_Model_hitsAs (G + 2) y 7 v) := by
  intro x y c hA hc
  · show ∃ r x2 y2, (g_Words_call (F + 2)).1 x b 7 1 v dep = some (r, x2) ∧ g_Model_hitsAs (G + 2) y 7 v = some (r, y2) ∧ _
    obtain ⟨x1, y1, n1, n2, hA1⟩ := note_AW hA (by omega) 80
    obtain ⟨k1, k2, k3⟩ := hA1.k hw
    have hC := call_note (F := F) (v := v) (dep := dep) (show f_Words_holderOf 7 1 = some 7 by decide +kernel) (by omega) (by decide) (show tv_OWN (7 * 4 + 1) = 80 by decide) (show tv_ABOVE 7 = (4) by decide) n1 k1
    rw [hC]
    obtain ⟨r, x2, y2, s1, s2, s3⟩ := sub4 v (dep + 1) (d_next hd (by omega)) x1 y1 (c + 1) hA1 (by omega)
    dsimp only at s1 s2
    obtain ⟨r2, x3, y3, t1, t2, t3⟩ := lies 2 (dep + 1) (d_next hd (by omega)) x2 y2 (c + 4) (s3.more (by omega)) (by omega)
    dsimp only at t1 t2
    obtain ⟨l1, l2, l3⟩ := s3.k hw
    have hX : f_Words_runBody_23 (g_Words_call F) x1 80 b v (dep + 1) own 4 = ((g_Words_call F).1 x1 b 4 1 v (dep + 1)).bind fun p => ((g_Words_call F).1 p.2 b own 2 2 (dep + 1)).bind fun q => some (p.1 + q.1, q.2) := rfl
    have hM : g_Model_hitsAs (G + 2) y 7 v = (g_Model_hitsAs (G + 1) y1 4 v).bind fun p => (f_Model_liesAs p.2 (p.2.1 0 30) 2).bind fun q => some (p.1 + q.1, q.2) := by
      show (f_Model_begins y 80).bind _ = _
      rw [n2]; rfl
    rw [hX, hM, s1, s2, Option.bind_some, Option.bind_some]
    dsimp only
    rw [l2, t1, t2]
    exact ⟨_, x3, y3, rfl, rfl, t3.more (by omega)⟩
theorem act_lies0 {x0 y0 : am_H} {b own : Int32} (hw : WD x0 y0 b own) (F G : Nat) (v dep : Int32) (hd : 0 ≤ dep.toInt ∧ dep.toInt ≤ 39) : ACT x0 y0 1 (fun x => (g_Words_call (F + 2)).1 x b 0 2 v dep) (fun y => g_Model_liesAs (G + 2) y 0 v) := by
  intro x y c hA hc
  · show ∃ r x2 y2, (g_Words_call (F + 2)).1 x b 0 2 v dep = some (r, x2) ∧ g_Model_liesAs (G + 2) y 0 v = some (r, y2) ∧ _
    obtain ⟨x1, y1, n1, n2, hA1⟩ := note_AW hA (by omega) 11
    obtain ⟨k1, k2, k3⟩ := hA1.k hw
    have hC := call_note (F := F) (v := v) (dep := dep) (show f_Words_holderOf 0 2 = some 0 by decide +kernel) (by omega) (by decide) (show tv_OWN (0 * 4 + 2) = 11 by decide) (show tv_ABOVE 0 = (-1) by decide) n1 k1
    rw [hC]
    have hM : g_Model_liesAs (G + 2) y 0 v = some (v ^^^ y1.1 0 31, y1) := by
      show (f_Model_begins y 11).bind _ = _
      rw [n2]; rfl
    rw [hM, k3]
    exact ⟨_, x1, y1, rfl, rfl, hA1.more (by omega)⟩
theorem act_lies1 {x0 y0 : am_H} {b own : Int32} (hw : WD x0 y0 b own) (F G : Nat) (v dep : Int32) (hd : 0 ≤ dep.toInt ∧ dep.toInt ≤ 39) : ACT x0 y0 1 (fun x => (g_Words_call (F + 2)).1 x b 1 2 v dep) (fun y => g_Model_liesAs (G + 2) y 1 v) := by
  intro x y c hA hc
  · show ∃ r x2 y2, (g_Words_call (F + 2)).1 x b 1 2 v dep = some (r, x2) ∧ g_Model_liesAs (G + 2) y 1 v = some (r, y2) ∧ _
    obtain ⟨x1, y1, n1, n2, hA1⟩ := note_AW hA (by omega) 11
    obtain ⟨k1, k2, k3⟩ := hA1.k hw
    have hC := call_note (F := F) (v := v) (dep := dep) (show f_Words_holderOf 1 2 = some 0 by decide +kernel) (by omega) (by decide) (show tv_OWN (0 * 4 + 2) = 11 by decide) (show tv_ABOVE 0 = (-1) by decide) n1 k1
    rw [hC]
    have hM : g_Model_liesAs (G + 2) y 1 v = some (v ^^^ y1.1 0 31, y1) := by
      show (f_Model_begins y 11).bind _ = _
      rw [n2]; rfl
    rw [hM, k3]
    exact ⟨_, x1, y1, rfl, rfl, hA1.more (by omega)⟩
theorem act_lies2 {x0 y0 : am_H} {b own : Int32} (hw : WD x0 y0 b own) (F G : Nat) (v dep : Int32) (hd : 0 ≤ dep.toInt ∧ dep.toInt ≤ 39) : ACT x0 y0 1 (fun x => (g_Words_call (F + 2)).1 x b 2 2 v dep) (fun y => g_Model_liesAs (G + 2) y 2 v) := by
  intro x y c hA hc
  · show ∃ r x2 y2, (g_Words_call (F + 2)).1 x b 2 2 v dep = some (r, x2) ∧ g_Model_liesAs (G + 2) y 2 v = some (r, y2) ∧ _
    obtain ⟨x1, y1, n1, n2, hA1⟩ := note_AW hA (by omega) 11
    obtain ⟨k1, k2, k3⟩ := hA1.k hw
    have hC := call_note (F := F) (v := v) (dep := dep) (show f_Words_holderOf 2 2 = some 0 by decide +kernel) (by omega) (by decide) (show tv_OWN (0 * 4 + 2) = 11 by decide) (show tv_ABOVE 0 = (-1) by decide) n1 k1
    rw [hC]
    have hM : g_Model_liesAs (G + 2) y 2 v = some (v ^^^ y1.1 0 31, y1) := by
      show (f_Model_begins y 11).bind _ = _
      rw [n2]; rfl
    rw [hM, k3]
    exact ⟨_, x1, y1, rfl, rfl, hA1.more (by omega)⟩
theorem act_lies3 {x0 y0 : am_H} {b own : Int32} (hw : WD x0 y0 b own) (F G : Nat) (sub2 : ∀ (v dep : Int32), 0 ≤ dep.toInt ∧ dep.toInt ≤ 39 → ACT x0 y0 1 (fun x => (g_Words_call F).1 x b 2 2 v dep) (fun y => g_Model_liesAs (G + 1) y 2 v)) (v dep : Int32) (hd : 0 ≤ dep.toInt ∧ dep.toInt ≤ 38) : ACT x0 y0 2 (fun x => (g_Words_call (F + 2)).1 x b 3 2 v dep) (fun y => g_Model_liesAs (G + 2) y 3 v) := by
  intro x y c hA hc
  · show ∃ r x2 y2, (g_Words_call (F + 2)).1 x b 3 2 v dep = some (r, x2) ∧ g_Model_liesAs (G + 2) y 3 v = some (r, y2) ∧ _
    obtain ⟨x1, y1, n1, n2, hA1⟩ := note_AW hA (by omega) 40
    obtain ⟨k1, k2, k3⟩ := hA1.k hw
    have hC := call_note (F := F) (v := v) (dep := dep) (show f_Words_holderOf 3 2 = some 3 by decide +kernel) (by omega) (by decide) (show tv_OWN (3 * 4 + 2) = 40 by decide) (show tv_ABOVE 3 = (2) by decide) n1 k1
    rw [hC]
    obtain ⟨r, x2, y2, s1, s2, s3⟩ := sub2 (v) (dep + 1) (d_next hd (by omega)) x1 y1 (c + 1) hA1 (by omega)
    dsimp only at s1 s2
    have hX : f_Words_runBody_23 (g_Words_call F) x1 40 b v (dep + 1) own (2) = ((g_Words_call F).1 x1 b 2 2 (v) (dep + 1)).bind fun p => some ((fun y0 : Int32 => y0 * 3) p.1, p.2) := rfl
    have hM : g_Model_liesAs (G + 2) y 3 v = (g_Model_liesAs (G + 1) y1 2 (v)).bind fun p => some ((fun y0 : Int32 => y0 * 3) p.1, p.2) := by
      show (f_Model_begins y 40).bind _ = _
      rw [n2]; rfl
    rw [hX, hM, s1, s2]
    exact ⟨_, x2, y2, rfl, rfl, s3.more (by omega)⟩
theorem act_lies4 {x0 y0 : am_H} {b own : Int32} (hw : WD x0 y0 b own) (F G : Nat) (sub1 : ∀ (v dep : Int32), 0 ≤ dep.toInt ∧ dep.toInt ≤ 39 → ACT x0 y0 1 (fun x => (g_Words_call F).1 x b 1 2 v dep) (fun y => g_Model_liesAs (G + 1) y 1 v)) (says : ∀ (v dep : Int32), 0 ≤ dep.toInt ∧ dep.toInt ≤ 38 → ACT x0 y0 2 (fun x => (g_Words_call F).1 x b own 0 v dep) (fun y => f_Model_saysAs y own v)) (v dep : Int32) (hd : 0 ≤ dep.toInt ∧ dep.toInt ≤ 37) : ACT x0 y0 4 (fun x => (g_Words_call (F + 2)).1 x b 4 2 v dep) (fun y => g_Model_liesAs (G + 2) y 4 v) := by
  intro x y c hA hc
  · show ∃ r x2 y2, (g_Words_call (F + 2)).1 x b 4 2 v dep = some (r, x2) ∧ g_Model_liesAs (G + 2) y 4 v = some (r, y2) ∧ _
    obtain ⟨x1, y1, n1, n2, hA1⟩ := note_AW hA (by omega) 50
    obtain ⟨k1, k2, k3⟩ := hA1.k hw
    have hC := call_note (F := F) (v := v) (dep := dep) (show f_Words_holderOf 4 2 = some 4 by decide +kernel) (by omega) (by decide) (show tv_OWN (4 * 4 + 2) = 50 by decide) (show tv_ABOVE 4 = (1) by decide) n1 k1
    rw [hC]
    obtain ⟨r, x2, y2, s1, s2, s3⟩ := sub1 v (dep + 1) (d_next hd (by omega)) x1 y1 (c + 1) hA1 (by omega)
    dsimp only at s1 s2
    obtain ⟨r2, x3, y3, t1, t2, t3⟩ := says 2 (dep + 1) (d_next hd (by omega)) x2 y2 (c + 2) (s3.more (by omega)) (by omega)
    dsimp only at t1 t2
    obtain ⟨l1, l2, l3⟩ := s3.k hw
    have hX : f_Words_runBody_23 (g_Words_call F) x1 50 b v (dep + 1) own 1 = ((g_Words_call F).1 x1 b 1 2 v (dep + 1)).bind fun p => ((g_Words_call F).1 p.2 b own 0 2 (dep + 1)).bind fun q => some (p.1 - q.1, q.2) := rfl
    have hM : g_Model_liesAs (G + 2) y 4 v = (g_Model_liesAs (G + 1) y1 1 v).bind fun p => (f_Model_saysAs p.2 (p.2.1 0 30) 2).bind fun q => some (p.1 - q.1, q.2) := by
      show (f_Model_begins y 50).bind _ = _
      rw [n2]; rfl
    rw [hX, hM, s1, s2, Option.bind_some, Option.bind_some]
    dsimp only
    rw [l2, t1, t2]
    exact ⟨_, x3, y3, rfl, rfl, t3.more (by omega)⟩
theorem act_lies5 {x0 y0 : am_H} {b own : Int32} (hw : WD x0 y0 b own) (F G : Nat) (sub2 : ∀ (v dep : Int32), 0 ≤ dep.toInt ∧ dep.toInt ≤ 39 → ACT x0 y0 1 (fun x => (g_Words_call F).1 x b 2 2 v dep) (fun y => g_Model_liesAs (G + 1) y 2 v)) (v dep : Int32) (hd : 0 ≤ dep.toInt ∧ dep.toInt ≤ 38) : ACT x0 y0 2 (fun x => (g_Words_call (F + 2)).1 x b 5 2 v dep) (fun y => g_Model_liesAs (G + 2) y 5 v) := by
  intro x y c hA hc
  · show ∃ r x2 y2, (g_Words_call (F + 2)).1 x b 5 2 v dep = some (r, x2) ∧ g_Model_liesAs (G + 2) y 5 v = some (r, y2) ∧ _
    obtain ⟨x1, y1, n1, n2, hA1⟩ := note_AW hA (by omega) 40
    obtain ⟨k1, k2, k3⟩ := hA1.k hw
    have hC := call_note (F := F) (v := v) (dep := dep) (show f_Words_holderOf 5 2 = some 3 by decide +kernel) (by omega) (by decide) (show tv_OWN (3 * 4 + 2) = 40 by decide) (show tv_ABOVE 3 = (2) by decide) n1 k1
    rw [hC]
    obtain ⟨r, x2, y2, s1, s2, s3⟩ := sub2 (v) (dep + 1) (d_next hd (by omega)) x1 y1 (c + 1) hA1 (by omega)
    dsimp only at s1 s2
    have hX : f_Words_runBody_23 (g_Words_call F) x1 40 b v (dep + 1) own (2) = ((g_Words_call F).1 x1 b 2 2 (v) (dep + 1)).bind fun p => some ((fun y0 : Int32 => y0 * 3) p.1, p.2) := rfl
    have hM : g_Model_liesAs (G + 2) y 5 v = (g_Model_liesAs (G + 1) y1 2 (v)).bind fun p => some ((fun y0 : Int32 => y0 * 3) p.1, p.2) := by
      show (f_Model_begins y 40).bind _ = _
      rw [n2]; rfl
    rw [hX, hM, s1, s2]
    exact ⟨_, x2, y2, rfl, rfl, s3.more (by omega)⟩
theorem act_lies6 {x0 y0 : am_H} {b own : Int32} (hw : WD x0 y0 b own) (F G : Nat) (v dep : Int32) (hd : 0 ≤ dep.toInt ∧ dep.toInt ≤ 39) : ACT x0 y0 1 (fun x => (g_Words_call (F + 2)).1 x b 6 2 v dep) (fun y => g_Model_liesAs (G + 2) y 6 v) := by
  intro x y c hA hc
  · show ∃ r x2 y2, (g_Words_call (F + 2)).1 x b 6 2 v dep = some (r, x2) ∧ g_Model_liesAs (G + 2) y 6 v = some (r, y2) ∧ _
    obtain ⟨x1, y1, n1, n2, hA1⟩ := note_AW hA (by omega) 11
    obtain ⟨k1, k2, k3⟩ := hA1.k hw
    have hC := call_note (F := F) (v := v) (dep := dep) (show f_Words_holderOf 6 2 = some 0 by decide +kernel) (by omega) (by decide) (show tv_OWN (0 * 4 + 2) = 11 by decide) (show tv_ABOVE 0 = (-1) by decide) n1 k1
    rw [hC]
    have hM : g_Model_liesAs (G + 2) y 6 v = some (v ^^^ y1.1 0 31, y1) := by
      show (f_Model_begins y 11).bind _ = _
      rw [n2]; rfl
    rw [hM, k3]
    exact ⟨_, x1, y1, rfl, rfl, hA1.more (by omega)⟩
theorem act_lies7 {x0 y0 : am_H} {b own : Int32} (hw : WD x0 y0 b own) (F G : Nat) (sub1 : ∀ (v dep : Int32), 0 ≤ dep.toInt ∧ dep.toInt ≤ 39 → ACT x0 y0 1 (fun x => (g_Words_call F).1 x b 1 2 v dep) (fun y => g_Model_liesAs (G + 1) y 1 v)) (says : ∀ (v dep : Int32), 0 ≤ dep.toInt ∧ dep.toInt ≤ 38 → ACT x0 y0 2 (fun x => (g_Words_call F).1 x b own 0 v dep) (fun y => f_Model_saysAs y own v)) (v dep : Int32) (hd : 0 ≤ dep.toInt ∧ dep.toInt ≤ 37) : ACT x0 y0 4 (fun x => (g_Words_call (F + 2)).1 x b 7 2 v dep) (fun y => g_Model_liesAs (G + 2) y 7 v) := by
  intro x y c hA hc
  · show ∃ r x2 y2, (g_Words_call (F + 2)).1 x b 7 2 v dep = some (r, x2) ∧ g_Model_liesAs (G + 2) y 7 v = some (r, y2) ∧ _
    obtain ⟨x1, y1, n1, n2, hA1⟩ := note_AW hA (by omega) 50
    obtain ⟨k1, k2, k3⟩ := hA1.k hw
    have hC := call_note (F := F) (v := v) (dep := dep) (show f_Words_holderOf 7 2 = some 4 by decide +kernel) (by omega) (by decide) (show tv_OWN (4 * 4 + 2) = 50 by decide) (show tv_ABOVE 4 = (1) by decide) n1 k1
    rw [hC]
    obtain ⟨r, x2, y2, s1, s2, s3⟩ := sub1 v (dep + 1) (d_next hd (by omega)) x1 y1 (c + 1) hA1 (by omega)
    dsimp only at s1 s2
    obtain ⟨r2, x3, y3, t1, t2, t3⟩ := says 2 (dep + 1) (d_next hd (by omega)) x2 y2 (c + 2) (s3.more (by omega)) (by omega)
    dsimp only at t1 t2
    obtain ⟨l1, l2, l3⟩ := s3.k hw
    have hX : f_Words_runBody_23 (g_Words_call F) x1 50 b v (dep + 1) own 1 = ((g_Words_call F).1 x1 b 1 2 v (dep + 1)).bind fun p => ((g_Words_call F).1 p.2 b own 0 2 (dep + 1)).bind fun q => some (p.1 - q.1, q.2) := rfl
    have hM : g_Model_liesAs (G + 2) y 7 v = (g_Model_liesAs (G + 1) y1 1 v).bind fun p => (f_Model_saysAs p.2 (p.2.1 0 30) 2).bind fun q => some (p.1 - q.1, q.2) := by
      show (f_Model_begins y 50).bind _ = _
      rw [n2]; rfl
    rw [hX, hM, s1, s2, Option.bind_some, Option.bind_some]
    dsimp only
    rw [l2, t1, t2]
    exact ⟨_, x3, y3, rfl, rfl, t3.more (by omega)⟩
theorem act_tells0 {x0 y0 : am_H} {b own : Int32} (hw : WD x0 y0 b own) (F G : Nat) (hits : ∀ (v dep : Int32), 0 ≤ dep.toInt ∧ dep.toInt ≤ 35 → ACT x0 y0 8 (fun x => (g_Words_call F).1 x b own 1 v dep) (fun y => f_Model_hitsAs y own v)) (lies : ∀ (v dep : Int32), 0 ≤ dep.toInt ∧ dep.toInt ≤ 36 → ACT x0 y0 4 (fun x => (g_Words_call F).1 x b own 2 v dep) (fun y => f_Model_liesAs y own v)) (v dep : Int32) (hd : 0 ≤ dep.toInt ∧ dep.toInt ≤ 34) : ACT x0 y0 13 (fun x => (g_Words_call (F + 2)).1 x b 0 3 v dep) (fun y => g_Model_tellsAs (G + 2) y 0 v) := by
  intro x y c hA hc
  · show ∃ r x2 y2, (g_Words_call (F + 2)).1 x b 0 3 v dep = some (r, x2) ∧ g_Model_tellsAs (G + 2) y 0 v = some (r, y2) ∧ _
    obtain ⟨x1, y1, n1, n2, hA1⟩ := note_AW hA (by omega) 2
    obtain ⟨k1, k2, k3⟩ := hA1.k hw
    have hC := call_note (F := F) (v := v) (dep := dep) (show f_Words_holderOf 0 3 = some 0 by decide +kernel) (by omega) (by decide) (show tv_OWN (0 * 4 + 3) = 2 by decide) (show tv_ABOVE 0 = (-1) by decide) n1 k1
    rw [hC]
    obtain ⟨r, x2, y2, s1, s2, s3⟩ := hits v (dep + 1) (d_next hd (by omega)) x1 y1 (c + 1) hA1 (by omega)
    dsimp only at s1 s2
    obtain ⟨r2, x3, y3, t1, t2, t3⟩ := lies 1 (dep + 1) (d_next hd (by omega)) x2 y2 (c + 9) (s3.more (by omega)) (by omega)
    dsimp only at t1 t2
    obtain ⟨l1, l2, l3⟩ := s3.k hw
    have hX : f_Words_runBody_23 (g_Words_call F) x1 2 b v (dep + 1) own (-1) = ((g_Words_call F).1 x1 b own 1 v (dep + 1)).bind fun p => ((g_Words_call F).1 p.2 b own 2 1 (dep + 1)).bind fun q => some (p.1 - q.1, q.2) := rfl
    have hM : g_Model_tellsAs (G + 2) y 0 v = (f_Model_hitsAs y1 (y1.1 0 30) v).bind fun p => (f_Model_liesAs p.2 (p.2.1 0 30) 1).bind fun q => some (p.1 - q.1, q.2) := by
      show (f_Model_begins y 2).bind _ = _
      rw [n2]; rfl
    rw [hX, hM, k2, s1, s2, Option.bind_some, Option.bind_some]
    dsimp only
    rw [l2, t1, t2]
    exact ⟨_, x3, y3, rfl, rfl, t3.more (by omega)⟩
theorem act_tells1 {x0 y0 : am_H} {b own : Int32} (hw : WD x0 y0 b own) (F G : Nat) (hits : ∀ (v dep : Int32), 0 ≤ dep.toInt ∧ dep.toInt ≤ 35 → ACT x0 y0 8 (fun x => (g_Words_call F).1 x b own 1 v dep) (fun y => f_Model_hitsAs y own v)) (lies : ∀ (v dep : Int32), 0 ≤ dep.toInt ∧ dep.toInt ≤ 36 → ACT x0 y0 4 (fun x => (g_Words_call F).1 x b own 2 v dep) (fun y => f_Model_liesAs y own v)) (v dep : Int32) (hd : 0 ≤ dep.toInt ∧ dep.toInt ≤ 34) : ACT x0 y0 13 (fun x => (g_Words_call (F + 2)).1 x b 1 3 v dep) (fun y => g_Model_tellsAs (G + 2) y 1 v) := by
  intro x y c hA hc
  · show ∃ r x2 y2, (g_Words_call (F + 2)).1 x b 1 3 v dep = some (r, x2) ∧ g_Model_tellsAs (G + 2) y 1 v = some (r, y2) ∧ _
    obtain ⟨x1, y1, n1, n2, hA1⟩ := note_AW hA (by omega) 2
    obtain ⟨k1, k2, k3⟩ := hA1.k hw
    have hC := call_note (F := F) (v := v) (dep := dep) (show f_Words_holderOf 1 3 = some 0 by decide +kernel) (by omega) (by decide) (show tv_OWN (0 * 4 + 3) = 2 by decide) (show tv_ABOVE 0 = (-1) by decide) n1 k1
    rw [hC]
    obtain ⟨r, x2, y2, s1, s2, s3⟩ := hits v (dep + 1) (d_next hd (by omega)) x1 y1 (c + 1) hA1 (by omega)
    dsimp only at s1 s2
    obtain ⟨r2, x3, y3, t1, t2, t3⟩ := lies 1 (dep + 1) (d_next hd (by omega)) x2 y2 (c + 9) (s3.more (by omega)) (by omega)
    dsimp only at t1 t2
    obtain ⟨l1, l2, l3⟩ := s3.k hw
    have hX : f_Words_runBody_23 (g_Words_call F) x1 2 b v (dep + 1) own (-1) = ((g_Words_call F).1 x1 b own 1 v (dep + 1)).bind fun p => ((g_Words_call F).1 p.2 b own 2 1 (dep + 1)).bind fun q => some (p.1 - q.1, q.2) := rfl
    have hM : g_Model_tellsAs (G + 2) y 1 v = (f_Model_hitsAs y1 (y1.1 0 30) v).bind fun p => (f_Model_liesAs p.2 (p.2.1 0 30) 1).bind fun q => some (p.1 - q.1, q.2) := by
      show (f_Model_begins y 2).bind _ = _
      rw [n2]; rfl
    rw [hX, hM, k2, s1, s2, Option.bind_some, Option.bind_some]
    dsimp only
    rw [l2, t1, t2]
    exact ⟨_, x3, y3, rfl, rfl, t3.more (by omega)⟩
theorem act_tells2 {x0 y0 : am_H} {b own : Int32} (hw : WD x0 y0 b own) (F G : Nat) (hits : ∀ (v dep : Int32), 0 ≤ dep.toInt ∧ dep.toInt ≤ 35 → ACT x0 y0 8 (fun x => (g_Words_call F).1 x b own 1 v dep) (fun y => f_Model_hitsAs y own v)) (lies : ∀ (v dep : Int32), 0 ≤ dep.toInt ∧ dep.toInt ≤ 36 → ACT x0 y0 4 (fun x => (g_Words_call F).1 x b own 2 v dep) (fun y => f_Model_liesAs y own v)) (v dep : Int32) (hd : 0 ≤ dep.toInt ∧ dep.toInt ≤ 34) : ACT x0 y0 13 (fun x => (g_Words_call (F + 2)).1 x b 2 3 v dep) (fun y => g_Model_tellsAs (G + 2) y 2 v) := by
  intro x y c hA hc
  · show ∃ r x2 y2, (g_Words_call (F + 2)).1 x b 2 3 v dep = some (r, x2) ∧ g_Model_tellsAs (G + 2) y 2 v = some (r, y2) ∧ _
    obtain ⟨x1, y1, n1, n2, hA1⟩ := note_AW hA (by omega) 2
    obtain ⟨k1, k2, k3⟩ := hA1.k hw
    have hC := call_note (F := F) (v := v) (dep := dep) (show f_Words_holderOf 2 3 = some 0 by decide +kernel) (by omega) (by decide) (show tv_OWN (0 * 4 + 3) = 2 by decide) (show tv_ABOVE 0 = (-1) by decide) n1 k1
    rw [hC]
    obtain ⟨r, x2, y2, s1, s2, s3⟩ := hits v (dep + 1) (d_next hd (by omega)) x1 y1 (c + 1) hA1 (by omega)
    dsimp only at s1 s2
    obtain ⟨r2, x3, y3, t1, t2, t3⟩ := lies 1 (dep + 1) (d_next hd (by omega)) x2 y2 (c + 9) (s3.more (by omega)) (by omega)
    dsimp only at t1 t2
    obtain ⟨l1, l2, l3⟩ := s3.k hw
    have hX : f_Words_runBody_23 (g_Words_call F) x1 2 b v (dep + 1) own (-1) = ((g_Words_call F).1 x1 b own 1 v (dep + 1)).bind fun p => ((g_Words_call F).1 p.2 b own 2 1 (dep + 1)).bind fun q => some (p.1 - q.1, q.2) := rfl
    have hM : g_Model_tellsAs (G + 2) y 2 v = (f_Model_hitsAs y1 (y1.1 0 30) v).bind fun p => (f_Model_liesAs p.2 (p.2.1 0 30) 1).bind fun q => some (p.1 - q.1, q.2) := by
      show (f_Model_begins y 2).bind _ = _
      rw [n2]; rfl
    rw [hX, hM, k2, s1, s2, Option.bind_some, Option.bind_some]
    dsimp only
    rw [l2, t1, t2]
    exact ⟨_, x3, y3, rfl, rfl, t3.more (by omega)⟩
theorem act_tells3 {x0 y0 : am_H} {b own : Int32} (hw : WD x0 y0 b own) (F G : Nat) (hits : ∀ (v dep : Int32), 0 ≤ dep.toInt ∧ dep.toInt ≤ 35 → ACT x0 y0 8 (fun x => (g_Words_call F).1 x b own 1 v dep) (fun y => f_Model_hitsAs y own v)) (lies : ∀ (v dep : Int32), 0 ≤ dep.toInt ∧ dep.toInt ≤ 36 → ACT x0 y0 4 (fun x => (g_Words_call F).1 x b own 2 v dep) (fun y => f_Model_liesAs y own v)) (v dep : Int32) (hd : 0 ≤ dep.toInt ∧ dep.toInt ≤ 34) : ACT x0 y0 13 (fun x => (g_Words_call (F + 2)).1 x b 3 3 v dep) (fun y => g_Model_tellsAs (G + 2) y 3 v) := by
  intro x y c hA hc
  · show ∃ r x2 y2, (g_Words_call (F + 2)).1 x b 3 3 v dep = some (r, x2) ∧ g_Model_tellsAs (G + 2) y 3 v = some (r, y2) ∧ _
    obtain ⟨x1, y1, n1, n2, hA1⟩ := note_AW hA (by omega) 2
    obtain ⟨k1, k2, k3⟩ := hA1.k hw
    have hC := call_note (F := F) (v := v) (dep := dep) (show f_Words_holderOf 3 3 = some 0 by decide +kernel) (by omega) (by decide) (show tv_OWN (0 * 4 + 3) = 2 by decide) (show tv_ABOVE 0 = (-1) by decide) n1 k1
    rw [hC]
    obtain ⟨r, x2, y2, s1, s2, s3⟩ := hits v (dep + 1) (d_next hd (by omega)) x1 y1 (c + 1) hA1 (by omega)
    dsimp only at s1 s2
    obtain ⟨r2, x3, y3, t1, t2, t3⟩ := lies 1 (dep + 1) (d_next hd (by omega)) x2 y2 (c + 9) (s3.more (by omega)) (by omega)
    dsimp only at t1 t2
    obtain ⟨l1, l2, l3⟩ := s3.k hw
    have hX : f_Words_runBody_23 (g_Words_call F) x1 2 b v (dep + 1) own (-1) = ((g_Words_call F).1 x1 b own 1 v (dep + 1)).bind fun p => ((g_Words_call F).1 p.2 b own 2 1 (dep + 1)).bind fun q => some (p.1 - q.1, q.2) := rfl
    have hM : g_Model_tellsAs (G + 2) y 3 v = (f_Model_hitsAs y1 (y1.1 0 30) v).bind fun p => (f_Model_liesAs p.2 (p.2.1 0 30) 1).bind fun q => some (p.1 - q.1, q.2) := by
      show (f_Model_begins y 2).bind _ = _
      rw [n2]; rfl
    rw [hX, hM, k2, s1, s2, Option.bind_some, Option.bind_some]
    dsimp only
    rw [l2, t1, t2]
    exact ⟨_, x3, y3, rfl, rfl, t3.more (by omega)⟩
theorem act_tells4 {x0 y0 : am_H} {b own : Int32} (hw : WD x0 y0 b own) (F G : Nat) (hits : ∀ (v dep : Int32), 0 ≤ dep.toInt ∧ dep.toInt ≤ 35 → ACT x0 y0 8 (fun x => (g_Words_call F).1 x b own 1 v dep) (fun y => f_Model_hitsAs y own v)) (lies : ∀ (v dep : Int32), 0 ≤ dep.toInt ∧ dep.toInt ≤ 36 → ACT x0 y0 4 (fun x => (g_Words_call F).1 x b own 2 v dep) (fun y => f_Model_liesAs y own v)) (v dep : Int32) (hd : 0 ≤ dep.toInt ∧ dep.toInt ≤ 34) : ACT x0 y0 13 (fun x => (g_Words_call (F + 2)).1 x b 4 3 v dep) (fun y => g_Model_tellsAs (G + 2) y 4 v) := by
  intro x y c hA hc
  · show ∃ r x2 y2, (g_Words_call (F + 2)).1 x b 4 3 v dep = some (r, x2) ∧ g_Model_tellsAs (G + 2) y 4 v = some (r, y2) ∧ _
    obtain ⟨x1, y1, n1, n2, hA1⟩ := note_AW hA (by omega) 2
    obtain ⟨k1, k2, k3⟩ := hA1.k hw
    have hC := call_note (F := F) (v := v) (dep := dep) (show f_Words_holderOf 4 3 = some 0 by decide +kernel) (by omega) (by decide) (show tv_OWN (0 * 4 + 3) = 2 by decide) (show tv_ABOVE 0 = (-1) by decide) n1 k1
    rw [hC]
    obtain ⟨r, x2, y2, s1, s2, s3⟩ := hits v (dep + 1) (d_next hd (by omega)) x1 y1 (c + 1) hA1 (by omega)
    dsimp only at s1 s2
    obtain ⟨r2, x3, y3, t1, t2, t3⟩ := lies 1 (dep + 1) (d_next hd (by omega)) x2 y2 (c + 9) (s3.more (by omega)) (by omega)
    dsimp only at t1 t2
    obtain ⟨l1, l2, l3⟩ := s3.k hw
    have hX : f_Words_runBody_23 (g_Words_call F) x1 2 b v (dep + 1) own (-1) = ((g_Words_call F).1 x1 b own 1 v (dep + 1)).bind fun p => ((g_Words_call F).1 p.2 b own 2 1 (dep + 1)).bind fun q => some (p.1 - q.1, q.2) := rfl
    have hM : g_Model_tellsAs (G + 2) y 4 v = (f_Model_hitsAs y1 (y1.1 0 30) v).bind fun p => (f_Model_liesAs p.2 (p.2.1 0 30) 1).bind fun q => some (p.1 - q.1, q.2) := by
      show (f_Model_begins y 2).bind _ = _
      rw [n2]; rfl
    rw [hX, hM, k2, s1, s2, Option.bind_some, Option.bind_some]
    dsimp only
    rw [l2, t1, t2]
    exact ⟨_, x3, y3, rfl, rfl, t3.more (by omega)⟩
theorem act_tells5 {x0 y0 : am_H} {b own : Int32} (hw : WD x0 y0 b own) (F G : Nat) (sub3 : ∀ (v dep : Int32), 0 ≤ dep.toInt ∧ dep.toInt ≤ 34 → ACT x0 y0 13 (fun x => (g_Words_call F).1 x b 3 3 v dep) (fun y => g_Model_tellsAs (G + 1) y 3 v)) (v dep : Int32) (hd : 0 ≤ dep.toInt ∧ dep.toInt ≤ 33) : ACT x0 y0 14 (fun x => (g_Words_call (F + 2)).1 x b 5 3 v dep) (fun y => g_Model_tellsAs (G + 2) y 5 v) := by
  intro x y c hA hc
  · show ∃ r x2 y2, (g_Words_call (F + 2)).1 x b 5 3 v dep = some (r, x2) ∧ g_Model_tellsAs (G + 2) y 5 v = some (r, y2) ∧ _
    obtain ⟨x1, y1, n1, n2, hA1⟩ := note_AW hA (by omega) 60
    obtain ⟨k1, k2, k3⟩ := hA1.k hw
    have hC := call_note (F := F) (v := v) (dep := dep) (show f_Words_holderOf 5 3 = some 5 by decide +kernel) (by omega) (by decide) (show tv_OWN (5 * 4 + 3) = 60 by decide) (show tv_ABOVE 5 = (3) by decide) n1 k1
    rw [hC]
    obtain ⟨r, x2, y2, s1, s2, s3⟩ := sub3 (v) (dep + 1) (d_next hd (by omega)) x1 y1 (c + 1) hA1 (by omega)
    dsimp only at s1 s2
    have hX : f_Words_runBody_23 (g_Words_call F) x1 60 b v (dep + 1) own (3) = ((g_Words_call F).1 x1 b 3 3 (v) (dep + 1)).bind fun p => some ((fun y0 : Int32 => y0 ^^^ 5) p.1, p.2) := rfl
    have hM : g_Model_tellsAs (G + 2) y 5 v = (g_Model_tellsAs (G + 1) y1 3 (v)).bind fun p => some ((fun y0 : Int32 => y0 ^^^ 5) p.1, p.2) := by
      show (f_Model_begins y 60).bind _ = _
      rw [n2]; rfl
    rw [hX, hM, s1, s2]
    exact ⟨_, x2, y2, rfl, rfl, s3.more (by omega)⟩
theorem act_tells6 {x0 y0 : am_H} {b own : Int32} (hw : WD x0 y0 b own) (F G : Nat) (hits : ∀ (v dep : Int32), 0 ≤ dep.toInt ∧ dep.toInt ≤ 35 → ACT x0 y0 8 (fun x => (g_Words_call F).1 x b own 1 v dep) (fun y => f_Model_hitsAs y own v)) (lies : ∀ (v dep : Int32), 0 ≤ dep.toInt ∧ dep.toInt ≤ 36 → ACT x0 y0 4 (fun x => (g_Words_call F).1 x b own 2 v dep) (fun y => f_Model_liesAs y own v)) (v dep : Int32) (hd : 0 ≤ dep.toInt ∧ dep.toInt ≤ 34) : ACT x0 y0 13 (fun x => (g_Words_call (F + 2)).1 x b 6 3 v dep) (fun y => g_Model_tellsAs (G + 2) y 6 v) := by
  intro x y c hA hc
  · show ∃ r x2 y2, (g_Words_call (F + 2)).1 x b 6 3 v dep = some (r, x2) ∧ g_Model_tellsAs (G + 2) y 6 v = some (r, y2) ∧ _
    obtain ⟨x1, y1, n1, n2, hA1⟩ := note_AW hA (by omega) 2
    obtain ⟨k1, k2, k3⟩ := hA1.k hw
    have hC := call_note (F := F) (v := v) (dep := dep) (show f_Words_holderOf 6 3 = some 0 by decide +kernel) (by omega) (by decide) (show tv_OWN (0 * 4 + 3) = 2 by decide) (show tv_ABOVE 0 = (-1) by decide) n1 k1
    rw [hC]
    obtain ⟨r, x2, y2, s1, s2, s3⟩ := hits v (dep + 1) (d_next hd (by omega)) x1 y1 (c + 1) hA1 (by omega)
    dsimp only at s1 s2
    obtain ⟨r2, x3, y3, t1, t2, t3⟩ := lies 1 (dep + 1) (d_next hd (by omega)) x2 y2 (c + 9) (s3.more (by omega)) (by omega)
    dsimp only at t1 t2
    obtain ⟨l1, l2, l3⟩ := s3.k hw
    have hX : f_Words_runBody_23 (g_Words_call F) x1 2 b v (dep + 1) own (-1) = ((g_Words_call F).1 x1 b own 1 v (dep + 1)).bind fun p => ((g_Words_call F).1 p.2 b own 2 1 (dep + 1)).bind fun q => some (p.1 - q.1, q.2) := rfl
    have hM : g_Model_tellsAs (G + 2) y 6 v = (f_Model_hitsAs y1 (y1.1 0 30) v).bind fun p => (f_Model_liesAs p.2 (p.2.1 0 30) 1).bind fun q => some (p.1 - q.1, q.2) := by
      show (f_Model_begins y 2).bind _ = _
      rw [n2]; rfl
    rw [hX, hM, k2, s1, s2, Option.bind_some, Option.bind_some]
    dsimp only
    rw [l2, t1, t2]
    exact ⟨_, x3, y3, rfl, rfl, t3.more (by omega)⟩
theorem act_tells7 {x0 y0 : am_H} {b own : Int32} (hw : WD x0 y0 b own) (F G : Nat) (sub4 : ∀ (v dep : Int32), 0 ≤ dep.toInt ∧ dep.toInt ≤ 34 → ACT x0 y0 13 (fun x => (g_Words_call F).1 x b 4 3 v dep) (fun y => g_Model_tellsAs (G + 1) y 4 v)) (v dep : Int32) (hd : 0 ≤ dep.toInt ∧ dep.toInt ≤ 33) : ACT x0 y0 14 (fun x => (g_Words_call (F + 2)).1 x b 7 3 v dep) (fun y => g_Model_tellsAs (G + 2) y 7 v) := by
  intro x y c hA hc
  · show ∃ r x2 y2, (g_Words_call (F + 2)).1 x b 7 3 v dep = some (r, x2) ∧ g_Model_tellsAs (G + 2) y 7 v = some (r, y2) ∧ _
    obtain ⟨x1, y1, n1, n2, hA1⟩ := note_AW hA (by omega) 81
    obtain ⟨k1, k2, k3⟩ := hA1.k hw
    have hC := call_note (F := F) (v := v) (dep := dep) (show f_Words_holderOf 7 3 = some 7 by decide +kernel) (by omega) (by decide) (show tv_OWN (7 * 4 + 3) = 81 by decide) (show tv_ABOVE 7 = (4) by decide) n1 k1
    rw [hC]
    obtain ⟨r, x2, y2, s1, s2, s3⟩ := sub4 (v) (dep + 1) (d_next hd (by omega)) x1 y1 (c + 1) hA1 (by omega)
    dsimp only at s1 s2
    have hX : f_Words_runBody_23 (g_Words_call F) x1 81 b v (dep + 1) own (4) = ((g_Words_call F).1 x1 b 4 3 (v) (dep + 1)).bind fun p => some ((fun y0 : Int32 => y0 - 1) p.1, p.2) := rfl
    have hM : g_Model_tellsAs (G + 2) y 7 v = (g_Model_tellsAs (G + 1) y1 4 (v)).bind fun p => some ((fun y0 : Int32 => y0 - 1) p.1, p.2) := by
      show (f_Model_begins y 81).bind _ = _
      rw [n2]; rfl
    rw [hX, hM, s1, s2]
    exact ⟨_, x2, y2, rfl, rfl, s3.more (by omega)⟩
