/-! ACT -/
theorem ACT.more {x0 y0 : am_H} {d e : Int} {F G : am_H → Option (Int32 × am_H)} (h : ACT x0 y0 d F G) (hd : d ≤ e) : ACT x0 y0 e F G := by
  intro x y c hA hc
  obtain ⟨r, x2, y2, a, b, q⟩ := h x y c hA (by omega)
  exact ⟨r, x2, y2, a, b, q.more (by omega)⟩
theorem says_C {x0 y0 : am_H} {b own : Int32} (hw : WD x0 y0 b own) (F G : Nat) (v dep : Int32) (hd : 0 ≤ dep.toInt ∧ dep.toInt ≤ 38) {k : Int32} (hk : 0 ≤ k.toInt ∧ k.toInt ≤ 7) : ACT x0 y0 2 (fun x => (g_Words_call (F + 4)).1 x b k 0 v dep) (fun y => g_Model_saysAs (G + 3) y k v) := by
  have s0 := fun v dep hd => act_says0 hw F G v dep hd
  rcases k_8 hk with q | q | q | q | q | q | q | q <;> subst q
  · exact (act_says0 hw (F + 2) (G + 1) v dep ⟨hd.1, by omega⟩).more (by decide)
  · exact act_says1 hw (F + 2) (G + 1) s0 v dep hd
  · exact (act_says2 hw (F + 2) (G + 1) v dep ⟨hd.1, by omega⟩).more (by decide)
  · exact (act_says3 hw (F + 2) (G + 1) v dep ⟨hd.1, by omega⟩).more (by decide)
  · exact act_says4 hw (F + 2) (G + 1) s0 v dep hd
  · exact (act_says5 hw (F + 2) (G + 1) v dep ⟨hd.1, by omega⟩).more (by decide)
  · exact act_says6 hw (F + 2) (G + 1) s0 v dep hd
  · exact act_says7 hw (F + 2) (G + 1) s0 v dep hd
theorem says_O {x0 y0 : am_H} {b own : Int32} (hw : WD x0 y0 b own) (F : Nat) (v dep : Int32) (hd : 0 ≤ dep.toInt ∧ dep.toInt ≤ 38) : ACT x0 y0 2 (fun x => (g_Words_call (F + 4)).1 x b own 0 v dep) (fun y => f_Model_saysAs y own v) := says_C hw F 61 v dep hd hw.2.2.2
theorem lies_C {x0 y0 : am_H} {b own : Int32} (hw : WD x0 y0 b own) (F G : Nat) (v dep : Int32) (hd : 0 ≤ dep.toInt ∧ dep.toInt ≤ 36) {k : Int32} (hk : 0 ≤ k.toInt ∧ k.toInt ≤ 7) : ACT x0 y0 4 (fun x => (g_Words_call (F + 6)).1 x b k 2 v dep) (fun y => g_Model_liesAs (G + 3) y k v) := by
  have l1 := fun v dep hd => act_lies1 hw (F + 2) G v dep hd
  have l2 := fun v dep hd => act_lies2 hw (F + 2) G v dep hd
  have so := says_O hw F
  rcases k_8 hk with q | q | q | q | q | q | q | q <;> subst q
  · exact (act_lies0 hw (F + 4) (G + 1) v dep ⟨hd.1, by omega⟩).more (by decide)
  · exact (act_lies1 hw (F + 4) (G + 1) v dep ⟨hd.1, by omega⟩).more (by decide)
  · exact (act_lies2 hw (F + 4) (G + 1) v dep ⟨hd.1, by omega⟩).more (by decide)
  · exact (act_lies3 hw (F + 4) (G + 1) l2 v dep ⟨hd.1, by omega⟩).more (by decide)
  · exact act_lies4 hw (F + 4) (G + 1) l1 so v dep ⟨hd.1, by omega⟩
  · exact (act_lies5 hw (F + 4) (G + 1) l2 v dep ⟨hd.1, by omega⟩).more (by decide)
  · exact (act_lies6 hw (F + 4) (G + 1) v dep ⟨hd.1, by omega⟩).more (by decide)
  · exact act_lies7 hw (F + 4) (G + 1) l1 so v dep ⟨hd.1, by omega⟩
theorem lies_O {x0 y0 : am_H} {b own : Int32} (hw : WD x0 y0 b own) (F : Nat) (v dep : Int32) (hd : 0 ≤ dep.toInt ∧ dep.toInt ≤ 36) : ACT x0 y0 4 (fun x => (g_Words_call (F + 6)).1 x b own 2 v dep) (fun y => f_Model_liesAs y own v) := lies_C hw F 61 v dep hd hw.2.2.2
theorem hits_C {x0 y0 : am_H} {b own : Int32} (hw : WD x0 y0 b own) (F G : Nat) (v dep : Int32) (hd : 0 ≤ dep.toInt ∧ dep.toInt ≤ 35) {k : Int32} (hk : 0 ≤ k.toInt ∧ k.toInt ≤ 7) : ACT x0 y0 8 (fun x => (g_Words_call (F + 10)).1 x b k 1 v dep) (fun y => g_Model_hitsAs (G + 4) y k v) := by
  have h0 := fun v dep hd => act_hits0 hw (F + 4) G (says_O hw F) v dep hd
  have h2 := fun v dep hd => act_hits2 hw (F + 6) (G + 1) h0 v dep hd
  have h4 := fun v dep hd => act_hits4 hw (F + 6) (G + 1) (says_O hw (F + 2)) v dep hd
  have so := says_O hw (F + 4)
  have lo := lies_O hw (F + 2)
  rcases k_8 hk with q | q | q | q | q | q | q | q <;> subst q
  · exact (act_hits0 hw (F + 8) (G + 2) so v dep ⟨hd.1, by omega⟩).more (by decide)
  · exact (act_hits1 hw (F + 8) (G + 2) so v dep ⟨hd.1, by omega⟩).more (by decide)
  · exact (act_hits2 hw (F + 8) (G + 2) (fun v dep hd => act_hits0 hw (F + 6) (G + 1) (says_O hw (F + 2)) v dep hd) v dep ⟨hd.1, by omega⟩).more (by decide)
  · exact (act_hits3 hw (F + 8) (G + 2) h2 v dep ⟨hd.1, by omega⟩).more (by decide)
  · exact (act_hits4 hw (F + 8) (G + 2) so v dep ⟨hd.1, by omega⟩).more (by decide)
  · exact (act_hits5 hw (F + 8) (G + 2) h2 v dep ⟨hd.1, by omega⟩).more (by decide)
  · exact (act_hits6 hw (F + 8) (G + 2) so v dep ⟨hd.1, by omega⟩).more (by decide)
  · exact act_hits7 hw (F + 8) (G + 2) h4 lo v dep ⟨hd.1, by omega⟩
theorem hits_O {x0 y0 : am_H} {b own : Int32} (hw : WD x0 y0 b own) (F : Nat) (v dep : Int32) (hd : 0 ≤ dep.toInt ∧ dep.toInt ≤ 35) : ACT x0 y0 8 (fun x => (g_Words_call (F + 10)).1 x b own 1 v dep) (fun y => f_Model_hitsAs y own v) := hits_C hw F 60 v dep hd hw.2.2.2
theorem tells_C {x0 y0 : am_H} {b own : Int32} (hw : WD x0 y0 b own) (F G : Nat) (v dep : Int32) (hd : 0 ≤ dep.toInt ∧ dep.toInt ≤ 33) {k : Int32} (hk : 0 ≤ k.toInt ∧ k.toInt ≤ 7) : ACT x0 y0 14 (fun x => (g_Words_call (F + 14)).1 x b k 3 v dep) (fun y => g_Model_tellsAs (G + 3) y k v) := by
  have t3 := fun v dep hd => act_tells3 hw (F + 10) G (hits_O hw F) (lies_O hw (F + 4)) v dep hd
  have t4 := fun v dep hd => act_tells4 hw (F + 10) G (hits_O hw F) (lies_O hw (F + 4)) v dep hd
  have ho := hits_O hw (F + 2)
  have lo := lies_O hw (F + 6)
  rcases k_8 hk with q | q | q | q | q | q | q | q <;> subst q
  · exact (act_tells0 hw (F + 12) (G + 1) ho lo v dep ⟨hd.1, by omega⟩).more (by decide)
  · exact (act_tells1 hw (F + 12) (G + 1) ho lo v dep ⟨hd.1, by omega⟩).more (by decide)
  · exact (act_tells2 hw (F + 12) (G + 1) ho lo v dep ⟨hd.1, by omega⟩).more (by decide)
  · exact (act_tells3 hw (F + 12) (G + 1) ho lo v dep ⟨hd.1, by omega⟩).more (by decide)
  · exact (act_tells4 hw (F + 12) (G + 1) ho lo v dep ⟨hd.1, by omega⟩).more (by decide)
  · exact act_tells5 hw (F + 12) (G + 1) t3 v dep hd
  · exact (act_tells6 hw (F + 12) (G + 1) ho lo v dep ⟨hd.1, by omega⟩).more (by decide)
  · exact act_tells7 hw (F + 12) (G + 1) t4 v dep hd
theorem AW.w {x0 y0 x y : am_H} {c : Int} (h : AW x0 y0 c x y) (hc : c ≤ 1000) (hW : RW x0 y0) : RW x y := by
  obtain ⟨h1, h2, h3, h4, h5, h6, h7⟩ := h
  obtain ⟨w1, w2, w3, w4, w5, -, -, -, -⟩ := hW
  have e28 := (h1 28 (by decide)).1
  have e14 := (h3.2.2 14 (by decide) (by simp)).1
  have e26 := h3.1 26 (by simp)
  unfold RW
  rw [h2 2 (by decide), e28, e14, e26]
  exact ⟨w1, w2, w3, w4, w5, h4, h5, by omega, h7⟩
theorem E_act {x m : am_H} (h : RW x m) (b act v : Int32) : ∃ r x2 m2, f_Club_act x b act v = some (r, x2) ∧ f_Model_act m b act v = some (r, m2) ∧ RW x2 m2 ∧ sx [27, 29] x x2 ∧ sm [29, 30, 31] [15] m m2 := by
  obtain ⟨w1, w2, w3, w4, w5, w6, w7, w8, w9⟩ := id h
  have z0 : (0 : Int32).toInt = 0 := rfl
  have z4 : (4 : Int32).toInt = 4 := rfl
  have sx0 : sx [27, 29] x (am_pI x 27 3 0) := sx.pI _ _ _ _ (by simp)
  have sm0 : sm [29, 30, 31] [15] m (am_pI m 0 29 0) := sm.p0 _ _ _ (by simp)
  have hW0 : RW (am_pI x 27 3 0) (am_pI m 0 29 0) := by
    unfold RW
    simp only [hI1]
    simp [-Int32.toInt_add, -Int32.toInt_sub, -Int32.toInt_neg, -Int32.toInt_mul, -Int32.toInt_div]
    exact ⟨w1, w2, w3, w4, w5, w9⟩
  have hx2 : ∀ i, i ≠ 3 → (am_pI x 27 3 0).1 27 i = x.1 27 i := fun i hi => by simp [hI1, hi]
  have hx28 : (am_pI x 27 3 0).1 28 = x.1 28 := by funext i; simp [hI1]
  have hx27 : (am_pI x 27 3 0).1 27 3 = 0 := by simp [hI1]
  have hm29 : (am_pI m 0 29 0).1 0 29 = 0 := by simp [hI1]
  have hm14 : (am_pI m 0 29 0).1 14 = m.1 14 := by funext i; simp [hI1]
  unfold f_Club_act f_Words_perform f_Model_act
  rw [v_Words_hasWord hW0, v_Model_isBody hW0]
  generalize am_pI x 27 3 0 = x1 at *
  generalize am_pI m 0 29 0 = m1 at *
  unfold f_Words_perform_10 f_Model_act_10
  cases hb : wordB m1 b with
  | false => exact ⟨0, x1, m1, rfl, rfl, hW0, sx0, sm0⟩
  | true =>
    rw [if_pos rfl, if_pos rfl]
    have hb2 := hb
    unfold wordB at hb2
    have hb3 := of_decide_eq_true hb2
    obtain ⟨v1, v2, v3, v4, v5, v6, v7, v8, v9⟩ := id hW0
    have okb : am_ok b 50 = true := ok_of (by omega)
    have hbn : b.toNatClampNeg < 50 := by rw [ti_nat]; omega
    have hown := v5 b.toNatClampNeg hbn
    obtain ⟨own, hown2⟩ : ∃ o, o = m1.1 14 b.toNatClampNeg := ⟨_, rfl⟩
    rw [← hown2] at hown
    have smm : sm [29, 30, 31] [15] m1 (am_pI (am_pI m1 0 30 own) 0 31 b) := (sm.p0 _ _ _ (by simp)).tr (sm.p0 _ _ _ (by simp))
    have hk : ∀ y : am_H, y.1 27 2 = x1.1 27 2 → y.1 28 = x1.1 28 → f_Words_kindOf y b = some own := by
      intro y e2 e28
      have hh : f_Words_hasWord y b = true := by
        rw [← hb, ← v_Words_hasWord hW0]
        unfold f_Words_hasWord f_Words_hasWord_4 f_Words_hasWord_12
        rw [e2]; rfl
      unfold f_Words_kindOf f_Words_kindOf_5
      rw [hh, if_pos rfl]
      unfold f_Words_kindOf_8
      rw [if_pos okb, e28, v4 _ hbn, hown2]
    have hwd : WD x1 (am_pI (am_pI m1 0 30 own) 0 31 b) b own := ⟨hk, by simp [hI1], by simp [hI1], hown⟩
    have hA0 : AW x1 (am_pI (am_pI m1 0 30 own) 0 31 b) 0 x1 (am_pI (am_pI m1 0 30 own) 0 31 b) := by
      refine ⟨sx.rf _ _, fun _ _ => rfl, sm.rf _ _ _, ?_, ?_, ?_, fun i hi => ?_⟩
      · rw [hx27, ← hm29]; simp [hI1]
      · rw [show (am_pI (am_pI m1 0 30 own) 0 31 b).1 0 29 = m1.1 0 29 from by simp [hI1], hm29]; decide
      · rw [show (am_pI (am_pI m1 0 30 own) 0 31 b).1 0 29 = m1.1 0 29 from by simp [hI1], hm29]; decide
      · rw [v9 i hi]; simp [hI1]
    have hW1 : RW x1 (am_pI (am_pI m1 0 30 own) 0 31 b) := hW0.fm ((sm.p0 (ss := [30, 31]) (ks := []) _ _ _ (by simp)).tr (sm.p0 _ _ _ (by simp))) (by simp) (by simp)
    have fin : ∀ (d : Int) (F G : am_H → Option (Int32 × am_H)), d ≤ 1000 → ACT x1 (am_pI (am_pI m1 0 30 own) 0 31 b) d F G → ∃ r x2 m2, F x1 = some (r, x2) ∧ G (am_pI (am_pI m1 0 30 own) 0 31 b) = some (r, m2) ∧ RW x2 m2 ∧ sx [27, 29] x x2 ∧ sm [29, 30, 31] [15] m m2 := by
      intro d F G hd hF
      obtain ⟨r, x2, y2, a1, a2, a3⟩ := hF x1 _ 0 hA0 (by omega)
      exact ⟨r, x2, y2, a1, a2, a3.w (by omega) hW1, sx0.tr a3.1, (sm0.tr smm).tr (a3.2.2.1.mono (by simp) (by simp))⟩
    have e30 : (am_pI (am_pI m1 0 30 own) 0 31 b).1 0 30 = own := by simp [hI1]
    have hid : ∀ o : Option (Int32 × am_H), ((o.bind fun p => f_Words_perform_37 p.2 p.1).bind fun p => f_Club_act_10 p.2 p.1) = o := by
      intro o; cases o <;> rfl
    have hid2 : ∀ (g : am_H → Int32 → Option (Int32 × am_H)), (∀ y r, g y r = some (r, y)) → ∀ o : Option (Int32 × am_H), (o.bind fun p => g p.2 p.1) = o := by
      intro g hg o
      cases o with
      | none => rfl
      | some p => exact hg p.2 p.1
    have hX : 0 ≤ act.toInt → act.toInt < 4 → ((f_Words_perform_13 x1 b act v).bind fun p => f_Club_act_10 p.2 p.1) = (g_Words_call 64).1 x1 b own act v 0 := by
      intro h1 h2
      unfold f_Words_perform_13
      rw [if_neg (by rw [ti_lt]; omega)]
      unfold f_Words_perform_17
      rw [if_pos (by rw [ti_lt]; omega)]
      unfold f_Words_perform_24
      rw [hk x1 rfl rfl, Option.bind_some]
      unfold f_Words_perform_31
      rw [hid]; rfl
    unfold f_Model_act_15
    rw [if_pos okb, ← hown2]
    by_cases a0 : act = 0
    · rw [if_pos a0, hX (by rw [a0]; decide) (by rw [a0]; decide), a0]
      unfold f_Model_act_60
      rw [e30, hid2 f_Model_act_69 (fun _ _ => rfl)]
      exact fin 2 _ _ (by decide) (says_O hwd 60 v 0 (by decide))
    · rw [if_neg a0]
      by_cases a1 : act = 1
      · rw [if_pos a1, hX (by rw [a1]; decide) (by rw [a1]; decide), a1]
        unfold f_Model_act_70
        rw [e30, hid2 f_Model_act_79 (fun _ _ => rfl)]
        exact fin 8 _ _ (by decide) (hits_O hwd 54 v 0 (by decide))
      · rw [if_neg a1]
        by_cases a2 : act = 2
        · rw [if_pos a2, hX (by rw [a2]; decide) (by rw [a2]; decide), a2]
          unfold f_Model_act_80
          rw [e30, hid2 f_Model_act_89 (fun _ _ => rfl)]
          exact fin 4 _ _ (by decide) (lies_O hwd 58 v 0 (by decide))
        · rw [if_neg a2]
          by_cases a3 : act = 3
          · rw [if_pos a3, hX (by rw [a3]; decide) (by rw [a3]; decide), a3]
            unfold f_Model_act_90
            rw [e30, hid2 f_Model_act_99 (fun _ _ => rfl)]
            exact fin 14 _ _ (by decide) (tells_C hwd 50 61 v 0 (by decide) hown)
          · rw [if_neg a3]
            refine ⟨0, x1, am_pI (am_pI m1 0 30 own) 0 31 b, ?_, rfl, hW1, sx0, sm0.tr smm⟩
            unfold f_Words_perform_13
            by_cases q : act < 0
            · rw [if_pos q]; rfl
            · rw [if_neg q]; rw [ti_lt] at q
              unfold f_Words_perform_17
              rw [ti_eq] at a0 a1 a2 a3
              have z1 : (1 : Int32).toInt = 1 := rfl
              have z2 : (2 : Int32).toInt = 2 := rfl
              have z3 : (3 : Int32).toInt = 3 := rfl
              rw [if_neg (by rw [ti_lt]; omega)]; rfl
