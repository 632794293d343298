/-! at the pin -/
def ev0 (b : Int32) : Int32 := if 0 < b then 0 else 1
def sfS (e : Int32 → Int32) (b : Int32) : Int32 := 12 * e b
def bdS (m : am_H) (e : Int32 → Int32) (b : Int32) : Int32 := m.1 1 52 * e (b - 1) + m.1 1 53 * e (b + 2) + (12 - m.1 1 52 - m.1 1 53) * e b
def evS (m : am_H) (e : Int32 → Int32) (b : Int32) : Int32 := if sfS e b < bdS m e b then bdS m e b else sfS e b
theorem c_ev0 (x : am_H) (n : Nat) (b : Int32) : (g_Hole_waysAtBest (n + 1)).1 x b 0 = some (ev0 b) := by
  show f_Hole_waysAtBest_0 (g_Hole_waysAtBest n) x b 0 = _
  have z : (0 : Int32) ≤ 0 := by decide
  simp only [f_Hole_waysAtBest_17, f_Hole_waysAtBest_13, f_Hole_waysAtBest_9, f_Hole_waysAtBest_31, f_Hole_waysAtBest_25, f_Hole_waysAtBest_19, f_Hole_waysAtBest_4, f_Hole_waysAtBest_0, f_Hole_waysAtBest, if_pos z, ev0]
  split <;> rfl
theorem c_sf {x : am_H} {n : Nat} {h : Int32} {e : Int32 → Int32} (he : ∀ b, (g_Hole_waysAtBest n).1 x b (h - 1) = some (e b)) (b : Int32) : (g_Hole_waysAtBest (n + 1)).2.2 x b h = some (sfS e b) := by
  show f_Hole_waysSafe_0 (g_Hole_waysAtBest n) x b h = _
  simp only [f_Hole_waysSafe_0, f_Hole_waysSafe_10, he, Option.bind_some, sfS]
theorem c_bd {x m : am_H} (hR : RH x m) {n : Nat} {h : Int32} {e : Int32 → Int32} (he : ∀ b, (g_Hole_waysAtBest n).1 x b (h - 1) = some (e b)) (b : Int32) : (g_Hole_waysAtBest (n + 1)).2.1 x b h = some (bdS m e b) := by
  show f_Hole_waysBold_0 (g_Hole_waysAtBest n) x b h = _
  simp only [f_Hole_waysBold_0, f_Hole_waysBold_14, f_Hole_waysBold_29, f_Hole_waysBold_51, he, Option.bind_some, bdS, hR.bold, hR.risk]
theorem c_ev {x m : am_H} (hR : RH x m) {n : Nat} {h : Int32} {e : Int32 → Int32} (h1 : ¬ h ≤ 0) (h2 : h ≤ 2) (he : ∀ b, (g_Hole_waysAtBest n).1 x b (h - 1) = some (e b)) (b : Int32) : (g_Hole_waysAtBest (n + 2)).1 x b h = some (evS m e b) := by
  show f_Hole_waysAtBest_0 (g_Hole_waysAtBest (n + 1)) x b h = _
  simp only [f_Hole_waysAtBest_0, f_Hole_waysAtBest_4, f_Hole_waysAtBest_19, f_Hole_waysAtBest_25, f_Hole_waysAtBest_31, if_neg h1, if_pos h2, c_sf he, c_bd hR he, Option.bind_some, evS]
theorem m_ev0 (m : am_H) (n : Nat) (b w : Int32) : (g_Model_even (n + 1)).2 m b 0 w = some (ev0 b) := by
  show f_Model_evenBy_0 (g_Model_even n) m b 0 w = _
  simp only [f_Model_evenBy_0, f_Model_evenBy_4, f_Model_evenBy_8, f_Model_evenBy_12, if_true, ev0]
  split <;> rfl
theorem m_sf {m : am_H} {n : Nat} {h : Int32} {e : Int32 → Int32} (h0 : ¬ h = 0) (he : ∀ b, (g_Model_even n).1 m b (h - 1) = some (e b)) (b : Int32) : (g_Model_even (n + 1)).2 m b h 0 = some (sfS e b) := by
  show f_Model_evenBy_0 (g_Model_even n) m b h 0 = _
  simp only [f_Model_evenBy_0, f_Model_evenBy_14, f_Model_evenBy_18, f_Model_evenBy_28, if_neg h0, if_true, he, Option.bind_some, sfS]
theorem m_bd {m : am_H} {n : Nat} {h : Int32} {e : Int32 → Int32} (h0 : ¬ h = 0) (he : ∀ b, (g_Model_even n).1 m b (h - 1) = some (e b)) (b : Int32) : (g_Model_even (n + 1)).2 m b h 1 = some (bdS m e b) := by
  show f_Model_evenBy_0 (g_Model_even n) m b h 1 = _
  have z : ¬ (1 : Int32) = 0 := by decide
  simp only [f_Model_evenBy_0, f_Model_evenBy_14, f_Model_evenBy_30, f_Model_evenBy_60, f_Model_evenBy_73, f_Model_evenBy_91, if_neg h0, if_neg z, he, Option.bind_some, bdS, nl_0, nl_1, nl_2, nl_3, nl_4, nl_5, nl_6, nl_39, nl_49, nl_50, nl_51, nl_52, nl_53, nl_93, nl_130]
theorem m_pick {a b : Int32} : (if a ≤ b then some b else some a) = some (if a < b then b else a) := by
  by_cases h : a < b
  · have : a ≤ b := by rw [ti_le]; rw [ti_lt] at h; omega
    rw [if_pos h, if_pos this]
  · rw [if_neg h]
    by_cases h2 : a ≤ b
    · rw [if_pos h2]; congr 1; rw [ti_eq]; rw [ti_lt] at h; rw [ti_le] at h2; omega
    · rw [if_neg h2]
theorem m_evS {m : am_H} {n : Nat} {h : Int32} {e : Int32 → Int32} (h0 : ¬ h = 0) (he : ∀ b, (g_Model_even n).1 m b (h - 1) = some (e b)) (b : Int32) : (g_Model_even (n + 2)).1 m b h = some (evS m e b) := by
  show f_Model_even_0 (g_Model_even (n + 1)) m b h = _
  simp only [f_Model_even_0, f_Model_even_7, f_Model_even_15, f_Model_even_23, f_Model_even_27, m_sf h0 he, m_bd h0 he, Option.bind_some, evS]
  exact m_pick
theorem m_ev00 (m : am_H) (n : Nat) (b : Int32) : (g_Model_even (n + 2)).1 m b 0 = some (ev0 b) := by
  show f_Model_even_0 (g_Model_even (n + 1)) m b 0 = _
  simp only [f_Model_even_0, f_Model_even_7, f_Model_even_15, f_Model_even_23, f_Model_even_27, m_ev0, Option.bind_some]
  split <;> rfl
theorem atPin_tail {x m : am_H} {dh part b h s e : Int32} {den : Int64} (hden : den = 12 ∨ den = 144) (hw : (if s < e then e else s) = b) (hp : part = 0 ∨ part = 1) : ∃ r, f_Club_partOf b.toInt64 den part = some r ∧ f_Model_partOf (if e ≤ s then s else e).toInt64 den part = some r := by
  have : (if e ≤ s then s else e) = b := by
    rw [← hw]
    by_cases q : s < e
    · have : ¬ e ≤ s := by rw [ti_le]; rw [ti_lt] at q; omega
      rw [if_pos q, if_neg this]
    · have : e ≤ s := by rw [ti_le]; rw [ti_lt] at q; omega
      rw [if_neg q, if_pos this]
  rw [this]
  have h1 := ti_lo b
  have h2 := ti_hi b
  refine p_partOf (by rw [ti_wide]; omega) ?_ hp
  rcases hden with rfl | rfl <;> decide
theorem atPin_h {x m : am_H} (hR : RH x m) {b h : Int32} {e : Int32 → Int32} (h1 : ¬ h ≤ 0) (h2 : h ≤ 2) (h0 : ¬ h = 0) (n k : Nat) (hn : n + 2 = 64) (hk : k + 2 = 64)
    (hc : ∀ b, (g_Hole_waysAtBest n).1 x b (h - 1) = some (e b)) (hc2 : ∀ b, (g_Hole_waysAtBest (n + 1)).1 x b (h - 1) = some (e b)) (hm : ∀ b, (g_Model_even (k + 1)).1 m b (h - 1) = some (e b)) :
    f_Hole_waysToBeEven x b h = some (evS m e b) ∧ f_Hole_waysBold x b h = some (bdS m e b) ∧ f_Hole_waysSafe x b h = some (sfS e b) ∧ f_Model_evenBy m b h 0 = some (sfS e b) ∧ f_Model_evenBy m b h 1 = some (bdS m e b) := by
  refine ⟨?_, ?_, ?_, ?_, ?_⟩
  · have q : f_Hole_waysAtBest x b h = some (evS m e b) := by unfold f_Hole_waysAtBest; rw [← hn]; exact c_ev hR h1 h2 hc b
    unfold f_Hole_waysToBeEven f_Hole_waysToBeEven_6; rw [q]; rfl
  · unfold f_Hole_waysBold; rw [← hn]; exact c_bd hR hc2 b
  · unfold f_Hole_waysSafe; rw [← hn]; exact c_sf hc2 b
  · unfold f_Model_evenBy; rw [← hk]; exact m_sf h0 hm b
  · unfold f_Model_evenBy; rw [← hk]; exact m_bd h0 hm b
theorem E_atPin {x m : am_H} (hR : RH x m) (dh part : Int32) : ∃ r, f_Club_atPin x dh part = some r ∧ f_Model_atPin m dh part = some r := by
  have hd := ti_div dh (b := 10) (by decide)
  have z10 : (10 : Int32).toInt = 10 := rfl
  rw [z10] at hd
  have hm := ti_mul (dh / 10) 10
  rw [z10] at hm
  have hr := ti_sub dh (dh / 10 * 10)
  have hb := ti_sub (dh / 10) 9
  have z9 : (9 : Int32).toInt = 9 := rfl
  rw [z9] at hb
  simp only [f_Club_atPin_57, f_Club_atPin_115, f_Club_atPin_111, f_Club_atPin_108, f_Club_atPin_102, f_Club_atPin_95, f_Club_atPin_85, f_Club_atPin_83, f_Club_atPin_79, f_Club_atPin_76, f_Club_atPin_66, f_Club_atPin_61, f_Club_atPin_52, f_Club_atPin_48, f_Club_atPin_41, f_Club_atPin_40, f_Club_atPin_36, f_Club_atPin_30, f_Club_atPin_24, f_Club_atPin_18, f_Club_atPin, f_Hole_isBoldBetter, f_Hole_isBoldBetter_6, f_Hole_isBoldBetter_12, f_Hole_isBoldBetter_15, f_Hole_isBoldBetter_19, f_Model_atPin_40, f_Model_atPin_131, f_Model_atPin_127, f_Model_atPin_124, f_Model_atPin_118, f_Model_atPin_110, f_Model_atPin_108, f_Model_atPin_102, f_Model_atPin_96, f_Model_atPin_94, f_Model_atPin_90, f_Model_atPin_84, f_Model_atPin_77, f_Model_atPin_60, f_Model_atPin_44, f_Model_atPin_37, f_Model_atPin_28, f_Model_atPin_25, f_Model_atPin_13, f_Model_atPin_4, f_Model_atPin, v_Model_within32, Int64.reduceToInt]
  generalize hbe : dh / 10 - 9 = be at *
  generalize hho : dh - dh / 10 * 10 = ho at *
  have zm : (-9223372036854775808 : Int64) = -9223372036854775808 := rfl
  have n0 : (0 : Int32) = 0 := rfl
  have n1 : ¬ (1 : Int32) = 0 := by decide
  by_cases e1 : dh < 0
  · exact ⟨-9223372036854775808, by simp only [e1, if_true], by simp only [e1, if_true]⟩
  rw [ti_lt] at e1
  have z0 : (0 : Int32).toInt = 0 := rfl
  rw [z0] at e1
  rw [if_pos (by omega)] at hd
  have e1' : ¬ dh < 0 := by rw [ti_lt]; omega
  have hi := ti_hi dh
  have q0 : 0 ≤ dh.toInt / 10 := by omega
  by_cases e2 : 9 < be
  · have e3 : 18 < dh / 10 := by rw [ti_lt] at *; have : (18 : Int32).toInt = 18 := rfl; omega
    exact ⟨-9223372036854775808, by simp only [e1', e2, if_true, if_false, Bool.false_eq_true], by simp only [e1', e3, if_true, if_false, Bool.false_eq_true]⟩
  have e3 : ¬ 18 < dh / 10 := by rw [ti_lt] at *; have : (18 : Int32).toInt = 18 := rfl; omega
  by_cases e4 : decide (1 ≤ ho.toInt ∧ ho.toInt ≤ 2) = true
  · have e4' := of_decide_eq_true e4
    have f1 : ¬ ho < 1 := by rw [ti_lt]; have : (1 : Int32).toInt = 1 := rfl; omega
    have f2 : ¬ 2 < ho := by rw [ti_lt]; have : (2 : Int32).toInt = 2 := rfl; omega
    by_cases e5 : decide (0 ≤ part.toInt ∧ part.toInt ≤ 2) = true
    · have e5' := of_decide_eq_true e5
      have g1 : ¬ part < 0 := by rw [ti_lt]; omega
      have g2 : part ≤ 2 := by rw [ti_le]; have : (2 : Int32).toInt = 2 := rfl; omega
      obtain ⟨e, hE⟩ : ∃ e : Int32 → Int32, f_Hole_waysToBeEven x be ho = some (evS m e be) ∧ f_Hole_waysBold x be ho = some (bdS m e be) ∧ f_Hole_waysSafe x be ho = some (sfS e be) ∧ f_Model_evenBy m be ho 0 = some (sfS e be) ∧ f_Model_evenBy m be ho 1 = some (bdS m e be) := by
        by_cases k1 : ho = 1
        · rw [k1]
          refine ⟨ev0, atPin_h hR (by decide) (by decide) (by decide) 62 62 rfl rfl ?_ ?_ ?_⟩
          · exact fun b => c_ev0 x 61 b
          · exact fun b => c_ev0 x 62 b
          · exact fun b => m_ev00 m 61 b
        · have k2 : ho = 2 := by rw [ti_eq] at *; have : (1 : Int32).toInt = 1 := rfl; have : (2 : Int32).toInt = 2 := rfl; omega
          rw [k2]
          refine ⟨evS m ev0, atPin_h hR (by decide) (by decide) (by decide) 62 62 rfl rfl ?_ ?_ ?_⟩
          · exact fun b => c_ev hR (n := 60) (by decide) (by decide) (fun b => c_ev0 x 59 b) b
          · exact fun b => c_ev hR (n := 61) (by decide) (by decide) (fun b => c_ev0 x 60 b) b
          · exact fun b => m_evS (n := 61) (by decide) (fun b => m_ev00 m 59 b) b
      obtain ⟨h1, h2, h3, h4, h5⟩ := hE
      simp only [e1', e2, e3, e4, e5, f1, f2, g1, g2, n1, h1, h2, h3, h4, h5, if_true, if_false, Bool.false_eq_true, Option.bind_some]
      by_cases p2 : part = 2
      · simp only [p2, if_true]
        by_cases w : bdS m e be ≤ sfS e be
        · exact ⟨0, by simp only [w, if_true] <;> rfl, by simp only [w, if_true]⟩
        · exact ⟨1, by simp only [w, if_false, Bool.false_eq_true] <;> rfl, by simp only [w, if_false, Bool.false_eq_true]⟩
      · simp only [p2, if_false, Bool.false_eq_true]
        have hp : part = 0 ∨ part = 1 := by
          rw [ti_eq] at *; rw [ti_eq] at *
          have : (1 : Int32).toInt = 1 := rfl; have : (2 : Int32).toInt = 2 := rfl; omega
        obtain ⟨r, r1, r2⟩ := atPin_tail (x := x) (m := m) (dh := dh) (part := part) (h := ho) (s := sfS e be) (e := bdS m e be) (b := evS m e be) (den := if ho = 1 then 12 else 144) (by split <;> simp) rfl hp
        refine ⟨r, ?_, ?_⟩
        · by_cases k1 : ho = 1
          · rw [if_pos k1] at r1; simp only [k1, if_true, r1, Option.bind_some]
          · rw [if_neg k1] at r1; simp only [k1, if_false, Bool.false_eq_true, r1, Option.bind_some]
        · by_cases w : bdS m e be ≤ sfS e be
          · rw [if_pos w] at r2
            by_cases k1 : ho = 1
            · rw [if_pos k1] at r2; simp only [w, k1, if_true, r2, Option.bind_some]
            · rw [if_neg k1] at r2; simp only [w, k1, if_true, if_false, Bool.false_eq_true, r2, Option.bind_some]
          · rw [if_neg w] at r2
            by_cases k1 : ho = 1
            · rw [if_pos k1] at r2; simp only [w, k1, if_true, if_false, Bool.false_eq_true, r2, Option.bind_some]
            · rw [if_neg k1] at r2; simp only [w, k1, if_false, Bool.false_eq_true, r2, Option.bind_some]
    · have e5b : decide (0 ≤ part.toInt ∧ part.toInt ≤ 2) = false := by simpa using e5
      rw [decide_eq_true_iff] at e5
      have zt : (2 : Int32).toInt = 2 := rfl
      refine ⟨-9223372036854775808, ?_, by simp only [e1', e3, e4, e5b, if_true, if_false, Bool.false_eq_true] <;> rfl⟩
      by_cases g1 : part < 0
      · simp only [e1', e2, f1, f2, g1, n1, if_true, if_false, Bool.false_eq_true]
      · have g2 : ¬ part ≤ 2 := by rw [ti_le]; rw [ti_lt] at g1; omega
        simp only [e1', e2, f1, f2, g1, g2, n1, if_true, if_false, Bool.false_eq_true]
  · have e4b : decide (1 ≤ ho.toInt ∧ ho.toInt ≤ 2) = false := by simpa using e4
    rw [decide_eq_true_iff] at e4
    have zt : (2 : Int32).toInt = 2 := rfl
    have zo : (1 : Int32).toInt = 1 := rfl
    refine ⟨-9223372036854775808, ?_, by simp only [e1', e3, e4b, if_true, if_false, Bool.false_eq_true] <;> rfl⟩
    by_cases f1 : ho < 1
    · simp only [e1', e2, f1, if_true, if_false, Bool.false_eq_true]
    · have f2 : 2 < ho := by rw [ti_lt]; rw [ti_lt] at f1; omega
      simp only [e1', e2, f1, f2, if_true, if_false, Bool.false_eq_true]
