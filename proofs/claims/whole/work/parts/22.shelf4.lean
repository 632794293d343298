/-! put, taken -/
theorem v_refuse {x m : am_H} (h : RS x m) (d i : Int32) : ∃ r, f_Club_refuseElement x d i = some r ∧ f_Model_refusal m d i = some r ∧ (r = 0 → shelfB d = true ∧ 50 ≤ (m.1 16 d.toNatClampNeg).toInt ∧ 0 ≤ i.toInt ∧ i.toInt < (m.1 17 d.toNatClampNeg).toInt) := by
  simp only [f_Club_refuseElement_49, f_Club_refuseElement_45, f_Club_refuseElement_42, f_Club_refuseElement_36, f_Club_refuseElement_33, f_Club_refuseElement_30, f_Club_refuseElement_26, f_Club_refuseElement_23, f_Club_refuseElement_20, f_Club_refuseElement_9, f_Club_refuseElement_7, f_Club_refuseElement_4, f_Club_refuseElement, f_Model_refusal_53, f_Model_refusal_49, f_Model_refusal_39, f_Model_refusal_35, f_Model_refusal_32, f_Model_refusal_21, f_Model_refusal_18, f_Model_refusal_9, f_Model_refusal_7, f_Model_refusal_4, f_Model_refusal, v_Club_isShelf, v_Model_isShelf]
  cases e : shelfB d with
  | false => exact ⟨-1, rfl, rfl, fun q => absurd q (by decide)⟩
  | true =>
    obtain ⟨k1, k2, k3, k4⟩ := shelf_at e
    have hs := h _ k1
    have z0 : (0 : Int32).toInt = 0 := rfl
    have z1 : (1 : Int32).toInt = 1 := rfl
    have z50 : (50 : Int32).toInt = 50 := rfl
    simp only [k2, k3, if_true, p_isEmpty hs, p_isRow hs, p_hasPlaces hs]
    by_cases a1 : (m.1 16 d.toNatClampNeg).toInt < 0
    · have a2 : ¬ 0 ≤ m.1 16 d.toNatClampNeg := by rw [ti_le]; omega
      exact ⟨-11, by simp [a1], by simp [a2], fun q => absurd q (by decide)⟩
    · have a2 : 0 ≤ m.1 16 d.toNatClampNeg := by rw [ti_le]; omega
      by_cases a3 : 50 ≤ (m.1 16 d.toNatClampNeg).toInt
      · have a4 : 50 ≤ m.1 16 d.toNatClampNeg := by rw [ti_le]; omega
        by_cases a5 : 0 ≤ i.toInt ∧ i.toInt + 1 ≤ (m.1 17 d.toNatClampNeg).toInt
        · have a6 : ¬ i < 0 := by rw [ti_lt]; omega
          have a7 : ¬ m.1 17 d.toNatClampNeg ≤ i := by rw [ti_le]; omega
          have a9 : (0 ≤ i.toInt ∧ 0 ≤ (1 : Int32).toInt ∧ i.toInt + (1 : Int32).toInt ≤ (m.1 17 d.toNatClampNeg).toInt) := by omega
          refine ⟨0, ?_, ?_, fun _ => ⟨trivial, a3, by omega, by omega⟩⟩
          · simp only [a1, a3, a9, and_self, decide_true, decide_false, if_true, if_false, Bool.false_eq_true]
          · simp only [a2, a4, a6, a7, if_true, if_false]
        · have a9 : ¬ (0 ≤ i.toInt ∧ 0 ≤ (1 : Int32).toInt ∧ i.toInt + (1 : Int32).toInt ≤ (m.1 17 d.toNatClampNeg).toInt) := by omega
          refine ⟨-13, ?_, ?_, fun q => absurd q (by decide)⟩
          · simp only [a1, a3, a9, decide_true, decide_false, if_true, if_false, Bool.false_eq_true]
          · by_cases a6 : i < 0
            · simp only [a2, a4, a6, if_true]
            · have a7 : m.1 17 d.toNatClampNeg ≤ i := by rw [ti_le]; rw [ti_lt] at a6; omega
              simp only [a2, a4, a6, a7, if_true, if_false]
      · have a4 : ¬ 50 ≤ m.1 16 d.toNatClampNeg := by rw [ti_le]; omega
        exact ⟨-12, by simp [a1, a3], by simp [a2, a4], fun q => absurd q (by decide)⟩
theorem lowest_eq {x : am_H} {a : Nat} {s : Int32} (h : x.1 a 2 = s) (hs : 0 ≤ s.toInt ∧ s.toInt ≤ 4) (v : Int64) : f_Shelf_lowestBits x a v = f_Model_asSort s v := by
  simp only [f_Shelf_lowestBits_40, f_Shelf_lowestBits_45, f_Shelf_lowestBits_50, f_Shelf_lowestBits_66, f_Shelf_lowestBits_64, f_Shelf_lowestBits_60, f_Shelf_lowestBits_54, f_Shelf_lowestBits, f_Model_asSort_53, f_Model_asSort_49, f_Model_asSort_45, f_Model_asSort_39, f_Model_asSort_34, f_Model_asSort_28, f_Model_asSort_23, f_Model_asSort_16, f_Model_asSort_11, f_Model_asSort_4, f_Model_asSort, h]
  have z0 : (0 : Int32).toInt = 0 := rfl
  have z1 : (1 : Int32).toInt = 1 := rfl
  have z2 : (2 : Int32).toInt = 2 := rfl
  have z3 : (3 : Int32).toInt = 3 := rfl
  have z4 : (4 : Int32).toInt = 4 := rfl
  by_cases e0 : s = 0
  · simp only [e0, if_true]
  by_cases e1 : s = 1
  · simp only [e1]; rfl
  by_cases e2 : s = 2
  · simp only [e2]; rfl
  by_cases e3 : s = 3
  · simp only [e3]; rfl
  · simp only [e0, e1, e2, e3, if_false]
theorem byte_b (v : Int64) : -128 ≤ (f_Model_asSort 0 v).toInt ∧ (f_Model_asSort 0 v).toInt ≤ 127 := by
  have : f_Model_asSort 0 v = v.toInt32.toInt8.toInt32.toInt64 := rfl
  rw [this, ti_wide, Int8.toInt_toInt32]
  have h1 := Int8.le_toInt v.toInt32.toInt8
  have h2 := Int8.toInt_lt v.toInt32.toInt8
  omega
theorem E_put {x m : am_H} (h : RS x m) (d i : Int32) (v : Int64) : ∃ r x2 m2, f_Club_put x d i v = some (r, x2) ∧ f_Model_put m d i v = some (r, m2) ∧ RS x2 m2 ∧ sx [31, 32, 33, 34, 35, 36, 37, 38, 39, 40, 41, 42] x x2 ∧ sm [] [18] m m2 := by
  obtain ⟨r, r1, r2, r3⟩ := v_refuse h d i
  simp only [f_Club_put_27, f_Club_put_16, f_Club_put_13, f_Club_put_6, f_Club_put, f_Model_put_46, f_Model_put_42, f_Model_put_37, f_Model_put_36, f_Model_put_13, f_Model_put_6, f_Model_put, r1, r2, Option.bind_some]
  by_cases e : r = 0
  · obtain ⟨k0, k5, k6, k7⟩ := r3 e
    obtain ⟨k1, k2, k3, k4⟩ := shelf_at k0
    have hs := h _ k1
    have hs3 := hs.2.2.1
    obtain ⟨b1, b2⟩ := ix_at k0 (i := i) (by omega)
    have z0 : (0 : Int32).toInt = 0 := rfl
    have z60 : (60 : Int32).toInt = 60 := rfl
    have z50 : (50 : Int32).toInt = 50 := rfl
    have h1 : ¬ i < 0 := by rw [ti_lt]; omega
    have h2 : ¬ x.1 (31 + 2 * d.toNatClampNeg) 3 ≤ i := by rw [hs.1, ti_le]; omega
    have h3 : ¬ 60 ≤ i := by rw [ti_le]; omega
    have e5 := ti_sub (m.1 16 d.toNatClampNeg) 50
    have hso : x.1 (31 + 2 * d.toNatClampNeg) 2 = m.1 16 d.toNatClampNeg - 50 ∧ (m.1 16 d.toNatClampNeg).toInt ≤ 54 := by
      rcases hs.2.2.2.1 with ⟨e1, -⟩ | ⟨-, -, e3, -⟩ | ⟨-, e2, -, e4⟩
      · rw [e1] at k5; exact absurd k5 (by decide)
      · omega
      · exact ⟨e4, e2⟩
    have hlow := lowest_eq hso.1 (by omega) v
    have hj := ti_mk k6
    refine ⟨1, am_pL x (32 + 2 * d.toNatClampNeg) i.toNatClampNeg (f_Model_asSort (m.1 16 d.toNatClampNeg - 50) v), am_pL m 18 (60 * d.toNatClampNeg + i.toNatClampNeg) (f_Model_asSort (m.1 16 d.toNatClampNeg - 50) v), ?_, ?_, ?_, ?_, ?_⟩
    · simp only [f_Shelf_write_29, f_Shelf_write_28, f_Shelf_write_18, f_Shelf_write_12, f_Shelf_write_4, f_Shelf_write, e, k2, k3, h1, h2, h3, hlow, if_true, if_false, ok_of (i := i) (n := 60) (by omega), Option.bind_some]
      have e9 : 31 + 2 * d.toNatClampNeg + 1 = 32 + 2 * d.toNatClampNeg := by omega
      rw [e9]
    · simp only [f_Model_put_46, f_Model_put_42, f_Model_put_37, f_Model_put_36, f_Model_put_13, f_Model_put_6, f_Model_put, e, k2, b1, b2, if_true]
    · refine h.upd k1 (sx.pL _ _ _ _ (by simp)) (fun q hq hne => ⟨rfl, rfl, fun t ht => ?_⟩) rfl ?_
      · rw [hL2, if_neg (by omega)]
      · obtain ⟨a, b, c, f, g, g2⟩ := hs
        refine ⟨a, b, c, f, fun t ht => ?_, fun q t ht => ?_⟩
        · rw [hL2, hL2]
          by_cases w : t = i.toNatClampNeg
          · rw [if_pos ⟨rfl, w⟩, if_pos ⟨rfl, by omega⟩]
          · rw [if_neg (by omega), if_neg (by omega)]; exact g t ht
        · have q' : m.1 16 d.toNatClampNeg = 50 := q
          rw [hL2]
          by_cases w : t = i.toNatClampNeg
          · rw [if_pos ⟨rfl, by omega⟩, q']
            exact byte_b v
          · rw [if_neg (by omega)]; exact g2 q' t ht
    · exact sx.pL _ _ _ _ (shelf_mem k1 (Or.inr rfl))
    · exact sm.pL _ _ _ _ (by decide) (by decide)
  · refine ⟨r, x, m, ?_, ?_, h, sx.rf _ _, sm.rf _ _ _⟩
    · simp only [e, if_false]
    · simp only [f_Model_put_46, f_Model_put_42, f_Model_put_37, f_Model_put_36, f_Model_put_13, f_Model_put_6, f_Model_put, e, if_false]
def undT : List (List Bool) := [
  [true, false, false, false, false, false, false, false],
  [true, true, false, false, false, false, false, false],
  [true, false, true, false, false, false, false, false],
  [true, false, true, true, false, false, false, false],
  [true, true, false, false, true, false, false, false],
  [true, false, true, true, false, true, false, false],
  [true, false, false, false, false, false, true, false],
  [true, true, false, false, true, false, false, true]]
def undB (a b : Nat) : Bool := (undT.getD a []).getD b false
theorem und_class : ∀ a : Fin 8, ∀ b : Fin 8, f_Words_isUnder (Int32.ofNat a.val) (Int32.ofNat b.val) = some (undB a.val b.val) := by decide +kernel
theorem kind_nat {k : Int32} (h : 0 ≤ k.toInt ∧ k.toInt ≤ 7) : ∃ a : Fin 8, k = Int32.ofNat a.val := by
  refine ⟨⟨k.toNatClampNeg, by rw [ti_nat]; omega⟩, ?_⟩
  rw [ti_eq, Int32.toInt_ofNat_of_lt (by show k.toNatClampNeg < 2 ^ 31; rw [ti_nat]; omega)]
  exact (ti_mk h.1).symm
theorem tk_step (m : am_H) (n : Nat) (d k s : Int32) : f_Model_taken_58_l m (n + 1) d k s = if s = k then f_Model_taken_75 m d k s else if s ≤ 0 then f_Model_taken_75 m d k s else f_Model_taken_58_l m n d k (f_Model_above s) := by
  show f_Model_taken_58 (f_Model_taken_58_l m n) m d k s = _
  simp only [f_Model_taken_58, f_Model_taken_63, f_Model_taken_67, f_Model_taken_71]
/-- where the chain above a kind ends, for a kind asked for -/
def chT : List (List Nat) := [
  [0, 0, 0, 0, 0, 0, 0, 0],
  [0, 1, 0, 0, 0, 0, 0, 0],
  [0, 0, 2, 0, 0, 0, 0, 0],
  [0, 0, 2, 3, 0, 0, 0, 0],
  [0, 1, 0, 0, 4, 0, 0, 0],
  [0, 0, 2, 3, 0, 5, 0, 0],
  [0, 0, 0, 0, 0, 0, 6, 0],
  [0, 1, 0, 0, 4, 0, 0, 7]]
def chN (a b : Nat) : Nat := (chT.getD a []).getD b 0
def chain : Nat → Int32 → Int32 → Option Int32
  | 0, _, _ => none
  | n + 1, k, s => if s = k then some s else if s ≤ 0 then some s else chain n k (f_Model_above s)
theorem chain_tab : ∀ a : Fin 8, ∀ b : Fin 8, chain 6 (Int32.ofNat b.val) (Int32.ofNat a.val) = some (Int32.ofNat (chN a.val b.val)) := by decide +kernel
theorem chain_und : ∀ a : Fin 8, ∀ b : Fin 8, decide (Int32.ofNat (chN a.val b.val) = Int32.ofNat b.val) = undB a.val b.val := by decide +kernel
theorem tk_chain (m : am_H) (d k : Int32) : ∀ (n j : Nat) (s e : Int32), chain n k s = some e → f_Model_taken_58_l m (n + j) d k s = f_Model_taken_75 m d k e := by
  intro n
  induction n with
  | zero => intro j s e h; cases h
  | succ n ih =>
    intro j s e h
    rw [show n + 1 + j = (n + j) + 1 by omega, tk_step]
    simp only [chain] at h
    by_cases h1 : s = k
    · rw [if_pos h1] at h ⊢; cases h; rfl
    · rw [if_neg h1] at h ⊢
      by_cases h2 : s ≤ 0
      · rw [if_pos h2] at h ⊢; cases h; rfl
      · rw [if_neg h2] at h ⊢; exact ih j _ _ h
theorem E_taken {x m : am_H} (h : RS x m) (hW : RW x m) (d k : Int32) : ∃ r, f_Club_taken x d k = some r ∧ f_Model_taken m d k = some r := by
  simp only [f_Club_taken_14, f_Club_taken_70, f_Club_taken_65, f_Club_taken_62, f_Club_taken_54, f_Club_taken_51, f_Club_taken_43, f_Club_taken_40, f_Club_taken_37, f_Club_taken_33, f_Club_taken_30, f_Club_taken_27, f_Club_taken_16, f_Club_taken_11, f_Club_taken_7, f_Club_taken_4, f_Club_taken, f_Model_taken_19, f_Model_taken_93, f_Model_taken_90, f_Model_taken_80, f_Model_taken_75, f_Model_taken_71, f_Model_taken_67, f_Model_taken_63, f_Model_taken_58, f_Model_taken_57, f_Model_taken_47, f_Model_taken_44, f_Model_taken_33, f_Model_taken_30, f_Model_taken_21, f_Model_taken_16, f_Model_taken_7, f_Model_taken_4, f_Model_taken, v_Club_isShelf, v_Model_isShelf, v_Words_isKind, v_Model_within32, Int64.reduceToInt]
  cases e : shelfB d with
  | false => exact ⟨_, rfl, rfl⟩
  | true =>
    cases f : decide (0 ≤ k.toInt ∧ k.toInt ≤ 7) with
    | false => exact ⟨_, rfl, rfl⟩
    | true =>
      have f2 := of_decide_eq_true f
      obtain ⟨k1, k2, k3, k4⟩ := shelf_at e
      have hs := h _ k1
      have z0 : (0 : Int32).toInt = 0 := rfl
      have z50 : (50 : Int32).toInt = 50 := rfl
      simp only [k2, k3, if_true, p_isEmpty hs, p_isRow hs]
      by_cases a1 : (m.1 16 d.toNatClampNeg).toInt < 0
      · have a2 : ¬ 0 ≤ m.1 16 d.toNatClampNeg := by rw [ti_le]; omega
        exact ⟨-11, by simp [a1], by simp [a2]⟩
      · have a2 : 0 ≤ m.1 16 d.toNatClampNeg := by rw [ti_le]; omega
        by_cases a3 : 50 ≤ (m.1 16 d.toNatClampNeg).toInt
        · have a4 : ¬ m.1 16 d.toNatClampNeg < 50 := by rw [ti_lt]; omega
          exact ⟨-12, by simp [a1, a3], by simp [a2, a4]⟩
        · have a4 : m.1 16 d.toNatClampNeg < 50 := by rw [ti_lt]; omega
          have hw : (m.1 16 d.toNatClampNeg).toInt < (m.1 0 26).toInt ∧ x.1 (31 + 2 * d.toNatClampNeg) 1 = m.1 16 d.toNatClampNeg := by
            rcases hs.2.2.2.1 with ⟨e1, -⟩ | ⟨-, e2, -, e4, -⟩ | ⟨e1, -⟩
            · rw [e1] at a1; exact absurd (by decide) a1
            · exact ⟨e2, e4⟩
            · omega
          have hwB : wordB m (m.1 16 d.toNatClampNeg) = true := by unfold wordB; rw [decide_eq_true_iff]; omega
          have hn : (m.1 16 d.toNatClampNeg).toNatClampNeg < 50 := by rw [ti_nat]; omega
          have hok : am_ok (m.1 16 d.toNatClampNeg) 50 = true := ok_of (by omega)
          have hk := hW.2.2.2.2.1 _ hn
          have hxk := hW.2.2.2.1 _ hn
          obtain ⟨a, ha⟩ := kind_nat hk
          obtain ⟨b, hb⟩ := kind_nat f2
          have u1 := und_class a b
          have u2 := tk_chain m d k 6 4994 (m.1 14 (m.1 16 d.toNatClampNeg).toNatClampNeg) (Int32.ofNat (chN a.val b.val)) (by rw [ha, hb]; exact chain_tab a b)
          have u3 := chain_und a b
          rw [← ha, ← hb] at u1
          rw [← hb] at u3
          have hfu : am_fu = 6 + 4994 := rfl
          refine ⟨if undB a.val b.val = true then m.1 14 (m.1 16 d.toNatClampNeg).toNatClampNeg else -12, ?_, ?_⟩
          · simp only [a1, a3, decide_false, if_false, Bool.false_eq_true, f_Shelf_wordHeld, hw.2, f_Words_kindOf_17, f_Words_kindOf_8, f_Words_kindOf_5, f_Words_kindOf, v_Words_hasWord hW, hwB, if_true, hok, Option.bind_some, hxk, u1]
            split <;> rfl
          · simp only [a2, a4, if_true, f_Model_kindOf, hok, Option.bind_some, hfu]
            rw [u2]
            simp only [f_Model_taken_19, f_Model_taken_93, f_Model_taken_90, f_Model_taken_80, f_Model_taken_75, f_Model_taken_71, f_Model_taken_67, f_Model_taken_63, f_Model_taken_58, f_Model_taken_57, f_Model_taken_47, f_Model_taken_44, f_Model_taken_33, f_Model_taken_30, f_Model_taken_21, f_Model_taken_16, f_Model_taken_7, f_Model_taken_4, f_Model_taken, f_Model_kindOf, k2, hok, if_true, Option.bind_some]
            cases w : undB a.val b.val with
            | true => rw [w] at u3; rw [if_pos (of_decide_eq_true u3)]; rfl
            | false => rw [w] at u3; rw [if_neg (of_decide_eq_false u3)]; rfl
