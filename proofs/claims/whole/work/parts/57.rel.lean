/-! the whole relation, kept by every word -/
def KAll (x m : am_H) (L : Option ((Nat → Int32) → Int32)) : Prop := KB x m ∧ KP x m ∧ KLw x m L ∧ KD x m L
def Rel (x m : am_H) : Prop := ∃ L, (RH x m ∧ VM m ∧ RC x m) ∧ (RD x m ∧ RW x m ∧ RT0 x m ∧ RS x m) ∧ RTL x m L ∧ x.1 12 11 = 0 ∧ KAll x m L
def RR {α : Type} (fx fm : Option (α × am_H)) : Prop := ∃ r x2 m2, fx = some (r, x2) ∧ fm = some (r, m2) ∧ Rel x2 m2
theorem KAll.zero {x : am_H} (h : KZ x) (m : am_H) (L : Option ((Nat → Int32) → Int32)) : KAll x m L := by
  obtain ⟨h1, h2, h3, h4, h5⟩ := h
  refine ⟨KB.zero h1, fun q => absurd h4 q, ⟨fun _ => h2, fun j hj => Or.inl (h2 j hj), fun q => absurd h3 q⟩, fun q => absurd h5 q⟩
theorem KAll.kf {x m : am_H} {L : Option ((Nat → Int32) → Int32)} (h : KAll x m L) : KF x := ⟨h.1.1, h.2.2.1.1⟩
theorem KB.row {x m m2 : am_H} (h : KB x m) (e1 : m2.1 1 = m.1 1) (e6 : m2.1 0 6 = m.1 0 6) : KB x m2 := by
  unfold KB
  rw [rJ_c e1 e6, fB_c e1 e6, grB_c e1, bestF_c e1 e6, rowG_c e1 e6, e6]
  exact h
theorem KD.fm {x m m2 : am_H} {L : Option ((Nat → Int32) → Int32)} (h : KD x m L) (e1 : m2.1 1 = m.1 1) (e6 : m2.1 0 6 = m.1 0 6) : KD x m2 L := by
  unfold KD; rw [drS_C e1 e6]; exact h
theorem KP.fx {x x2 m : am_H} (h : KP x m) (h1 : x2.1 12 9 = x.1 12 9) (h2 : x2.1 12 12 = x.1 12 12) (h3 : x2.2 12 13 = x.2 12 13) : KP x2 m := by
  unfold KP; rw [h1, h2, h3]; exact h
theorem KD.fx {x x2 m : am_H} {L : Option ((Nat → Int32) → Int32)} (h : KD x m L) (h1 : x2.1 12 10 = x.1 12 10) (h2 : x2.2 12 14 = x.2 12 14) : KD x2 m L := by
  unfold KD; rw [h1, h2]; exact h
theorem KLw.fx {x x2 m : am_H} {L : Option ((Nat → Int32) → Int32)} (h : KLw x m L) (h1 : x2.1 12 7 = x.1 12 7) (h2 : x2.1 12 8 = x.1 12 8) (h3 : x2.2 14 = x.2 14) (h4 : x2.1 16 = x.1 16) : KLw x2 m L := by
  unfold KLw KT; rw [h1, h2, h3, h4]; exact h
theorem KAll.fr {x x2 m m2 : am_H} {L : Option ((Nat → Int32) → Int32)} {ks : List Nat} (h : KAll x m L) (s : sx ks x x2) (hk : 12 ∉ ks ∧ 13 ∉ ks ∧ 14 ∉ ks ∧ 15 ∉ ks ∧ 16 ∉ ks) (e1 : m2.1 1 = m.1 1) (e6 : m2.1 0 6 = m.1 0 6) : KAll x2 m2 L := by
  obtain ⟨a, b, c, d⟩ := h
  have e12 := s 12 hk.1
  refine ⟨(KB.fx a (by rw [e12.1]) (fun j _ => by rw [(s 13 hk.2.1).2]) (fun j _ => by rw [(s 15 hk.2.2.2.1).1])).row e1 e6, (b.fx (by rw [e12.1]) (by rw [e12.1]) (by rw [e12.2])).fm e1 e6, (c.fx (by rw [e12.1]) (by rw [e12.1]) (s 14 hk.2.2.1).2 (s 16 hk.2.2.2.2).1).fm e1 e6, (d.fx (by rw [e12.1]) (by rw [e12.2])).fm e1 e6⟩
theorem RC.of {x x2 m m2 : am_H} {ks ss ls : List Nat} (h : RC x m) (hV : VM m) (hV2 : VM m2) (s : sx ks x x2) (hk : 22 ∉ ks ∧ 23 ∉ ks ∧ 24 ∉ ks ∧ 25 ∉ ks ∧ 26 ∉ ks) (t : sm ss ls m m2) (h1 : 4 ∉ ss ∧ 5 ∉ ss ∧ 6 ∉ ss) (h2 : 2 ∉ ls ∧ 3 ∉ ls ∧ 4 ∉ ls) : RC x2 m2 := by
  have e6 := t.1 6 h1.2.2
  have ep : ∀ n w, plS m2 n w = plS m n w := fun n w => plS_c hV hV2 e6 n w
  unfold RC at *
  rw [(s 22 hk.1).1, (s 23 hk.2.1).1, (s 24 hk.2.2.1).1, (s 25 hk.2.2.2.1).1, (s 26 hk.2.2.2.2).1, t.1 4 h1.1, t.1 5 h1.2.1, (t.2.2 2 (by decide) h2.1).1, (t.2.2 3 (by decide) h2.2.1).1, (t.2.2 4 (by decide) h2.2.2).1]
  obtain ⟨a1, a2, a3, a4, a5, a6⟩ := h
  refine ⟨a1, a2, a3, a4, a5, fun i hi => ?_⟩
  obtain ⟨b1, b2⟩ := a6 i hi
  exact ⟨by rw [ep]; exact b1, b2⟩
/-- a word that leaves the hole, the clubs, the law and what was worked out -/
theorem Rel.light {x x2 m m2 : am_H} {ks ss ls : List Nat} (h : Rel x m) (s : sx ks x x2) (t : sm ss ls m m2) (hk : ∀ k ∈ ks, k ∉ [1, 2, 3, 4, 5, 12, 13, 14, 15, 16, 22, 23, 24, 25, 26]) (hs : ∀ i ∈ ss, i ∉ [4, 5, 6]) (hl : ∀ i ∈ ls, i ∉ [1, 2, 3, 4])
    (hD : RD x2 m2) (hW : RW x2 m2) (hT : RT0 x2 m2) (hS : RS x2 m2) (hL : ∀ L, RTL x m L → RTL x2 m2 L) : Rel x2 m2 := by
  obtain ⟨L, ⟨a, b, c⟩, -, d, e, f⟩ := h
  have nk : ∀ k, k ∈ [1, 2, 3, 4, 5, 12, 13, 14, 15, 16, 22, 23, 24, 25, 26] → k ∉ ks := fun k h1 h2 => hk k h2 h1
  have ns : ∀ k, k ∈ [4, 5, 6] → k ∉ ss := fun k h1 h2 => hs k h2 h1
  have nl : ∀ k, k ∈ [1, 2, 3, 4] → k ∉ ls := fun k h1 h2 => hl k h2 h1
  have hV := b.fr t (ns 6 (by simp)) (nl 1 (by simp))
  refine ⟨L, ⟨(a.fx s ⟨nk 1 (by simp), nk 2 (by simp), nk 3 (by simp), nk 4 (by simp), nk 5 (by simp)⟩).fm t (ns 6 (by simp)) (nl 1 (by simp)), hV, c.of b hV s ⟨nk 22 (by simp), nk 23 (by simp), nk 24 (by simp), nk 25 (by simp), nk 26 (by simp)⟩ t ⟨ns 4 (by simp), ns 5 (by simp), ns 6 (by simp)⟩ ⟨nl 2 (by simp), nl 3 (by simp), nl 4 (by simp)⟩⟩, ⟨hD, hW, hT, hS⟩, hL L d, by rw [(s 12 (nk 12 (by simp))).1]; exact e, f.fr s ⟨nk 12 (by simp), nk 13 (by simp), nk 14 (by simp), nk 15 (by simp), nk 16 (by simp)⟩ (t.2.2 1 (by decide) (nl 1 (by simp))).1 (t.1 6 (ns 6 (by simp)))⟩
theorem body_grow {x m m2 : am_H} {k r : Int32} (h : RW x m) (e : f_Model_body m k = some (r, m2)) : (m.1 0 26).toInt ≤ (m2.1 0 26).toInt := by
  obtain ⟨h1, h2, h3, -⟩ := h
  have y0 : (0 : Int64).toInt = 0 := rfl
  revert e
  simp only [f_Model_body_26, f_Model_body_23, f_Model_body_14, f_Model_body_12, f_Model_body_9, f_Model_body, v_Model_within32, Int64.reduceToInt]
  cases hq : decide (0 ≤ k.toInt ∧ k.toInt ≤ 7) with
  | false => intro e; simp at e; rw [← e.2]; exact Int.le_refl _
  | true =>
    by_cases f : m.1 0 26 = 50
    · intro e; simp [f] at e; rw [← e.2]; exact Int.le_refl _
    · have z50 : (50 : Int32).toInt = 50 := rfl
      rw [ti_eq] at f
      have ok : am_ok (m.1 0 26) 50 = true := ok_of (by omega)
      have t1 : (m.1 0 26 + 1).toInt = (m.1 0 26).toInt + 1 := by
        have z1 : (1 : Int32).toInt = 1 := rfl
        rw [ti_add, z1]; omega
      intro e
      have f' : ¬ m.1 0 26 = 50 := by rw [ti_eq]; exact f
      simp [f', ok, hI1] at e
      rw [← e.2, hI1, if_pos ⟨rfl, rfl⟩, t1]; omega
theorem R_back {x m : am_H} (h : Rel x m) : RR (f_Club_back x) (f_Model_back m) := by
  obtain ⟨L, ⟨a1, a2, a3⟩, ⟨b1, b2, b3, b4⟩, c, d, e⟩ := id h
  obtain ⟨r, x2, m2, p1, p2, p3, s, t⟩ := E_back b1
  exact ⟨r, x2, m2, p1, p2, h.light s t (by decide) (by decide) (by decide) p3 ((b2.fx s (by decide)).fm t (by decide) (by decide)) ((b3.fx s (by decide)).fm t (by decide) (by decide)) ((b4.fx s (by decide)).fm t (by decide) (by rw [t.1 26 (by decide)]; exact Int.le_refl _)) (fun L q => (q.fx s (by decide)).fm t (by decide) (by decide))⟩
theorem R_image {x m : am_H} (h : Rel x m) : RR (some (f_Club_image x)) (f_Model_image m) := by
  obtain ⟨L, ⟨a1, a2, a3⟩, ⟨b1, b2, b3, b4⟩, c, d, e⟩ := id h
  obtain ⟨r, m2, p1, p2, p3, s, t⟩ := E_image b1
  exact ⟨r, (f_Club_image x).2, m2, by rw [← p1], p2, h.light s t (by decide) (by decide) (by decide) p3 ((b2.fx s (by decide)).fm t (by decide) (by decide)) ((b3.fx s (by decide)).fm t (by decide) (by decide)) ((b4.fx s (by decide)).fm t (by decide) (by rw [t.1 26 (by decide)]; exact Int.le_refl _)) (fun L q => (q.fx s (by decide)).fm t (by decide) (by decide))⟩
theorem R_body {x m : am_H} (h : Rel x m) (k : Int32) : RR (f_Club_body x k) (f_Model_body m k) := by
  obtain ⟨L, ⟨a1, a2, a3⟩, ⟨b1, b2, b3, b4⟩, c, d, e⟩ := id h
  obtain ⟨r, x2, m2, p1, p2, p3, s, t⟩ := E_body b2 k
  exact ⟨r, x2, m2, p1, p2, h.light s t (by decide) (by decide) (by decide) ((b1.fx s (by decide)).fm t (by decide) (by decide)) p3 ((b3.fx s (by decide)).fm t (by decide) (by decide)) ((b4.fx s (by decide)).fm t (by decide) (body_grow b2 p2)) (fun L q => (q.fx s (by decide)).fm t (by decide) (by decide))⟩
theorem R_feed {x m : am_H} (h : Rel x m) (k : Int32) : RR (f_Club_feed x k) (f_Model_feed m k) := by
  obtain ⟨L, ⟨a1, a2, a3⟩, ⟨b1, b2, b3, b4⟩, c, d, e⟩ := id h
  obtain ⟨r, x2, m2, p1, p2, p3, s, s2, t⟩ := E_feed b3 k
  refine ⟨r, x2, m2, p1, p2, h.light s t (by decide) (by decide) (by decide) ((b1.fx s (by decide)).fm t (by decide) (by decide)) ((b2.fx s (by decide)).fm t (by decide) (by decide)) p3 ((b4.fx s (by decide)).fm t (by decide) (by rw [t.1 26 (by decide)]; exact Int.le_refl _)) (fun L q => ?_)⟩
  refine RTL.fm ?_ t (by decide) (by decide)
  unfold RTL at *
  rw [s2 8 (by decide), (s 9 (by decide)).1]
  exact q
theorem R_keep {x m : am_H} (h : Rel x m) (d w : Int32) : RR (f_Club_keep x d w) (f_Model_keep m d w) := by
  obtain ⟨L, ⟨a1, a2, a3⟩, ⟨b1, b2, b3, b4⟩, c, d', e⟩ := id h
  obtain ⟨r, x2, m2, p1, p2, p3, s, t⟩ := E_keep b4 b2 d w
  exact ⟨r, x2, m2, p1, p2, h.light s t (by decide) (by decide) (by decide) ((b1.fx s (by decide)).fm t (by decide) (by decide)) ((b2.fx s (by decide)).fm t (by decide) (by decide)) ((b3.fx s (by decide)).fm t (by decide) (by decide)) p3 (fun L q => (q.fx s (by decide)).fm t (by decide) (by decide))⟩
theorem R_row {x m : am_H} (h : Rel x m) (d w n : Int32) : RR (f_Club_row x d w n) (f_Model_row m d w n) := by
  obtain ⟨L, ⟨a1, a2, a3⟩, ⟨b1, b2, b3, b4⟩, c, d', e⟩ := id h
  obtain ⟨r, x2, m2, p1, p2, p3, s, t⟩ := E_row b4 d w n
  exact ⟨r, x2, m2, p1, p2, h.light s t (by decide) (by decide) (by decide) ((b1.fx s (by decide)).fm t (by decide) (by decide)) ((b2.fx s (by decide)).fm t (by decide) (by decide)) ((b3.fx s (by decide)).fm t (by decide) (by decide)) p3 (fun L q => (q.fx s (by decide)).fm t (by decide) (by decide))⟩
theorem R_put {x m : am_H} (h : Rel x m) (d i : Int32) (v : Int64) : RR (f_Club_put x d i v) (f_Model_put m d i v) := by
  obtain ⟨L, ⟨a1, a2, a3⟩, ⟨b1, b2, b3, b4⟩, c, d', e⟩ := id h
  obtain ⟨r, x2, m2, p1, p2, p3, s, t⟩ := E_put b4 d i v
  exact ⟨r, x2, m2, p1, p2, h.light s t (by decide) (by decide) (by decide) ((b1.fx s (by decide)).fm t (by decide) (by decide)) ((b2.fx s (by decide)).fm t (by decide) (by decide)) ((b3.fx s (by decide)).fm t (by decide) (by decide)) p3 (fun L q => (q.fx s (by decide)).fm t (by decide) (by decide))⟩
theorem R_shift {x m : am_H} (h : Rel x m) (d i e j n : Int32) : RR (f_Club_shift x d i e j n) (f_Model_shift m d i e j n) := by
  obtain ⟨L, ⟨a1, a2, a3⟩, ⟨b1, b2, b3, b4⟩, c, d', e'⟩ := id h
  obtain ⟨r, x2, m2, p1, p2, p3, s, t⟩ := E_shift b4 d i e j n
  exact ⟨r, x2, m2, p1, p2, h.light s t (by decide) (by decide) (by decide) ((b1.fx s (by decide)).fm t (by decide) (by decide)) ((b2.fx s (by decide)).fm t (by decide) (by decide)) ((b3.fx s (by decide)).fm t (by decide) (by decide)) p3 (fun L q => (q.fx s (by decide)).fm t (by decide) (by decide))⟩
theorem R_hit {x m : am_H} (h : Rel x m) (c seed : Int32) : RR (f_Club_hit x c seed) (f_Model_hit m c seed) := by
  obtain ⟨L, ⟨a1, a2, a3⟩, ⟨b1, b2, b3, b4⟩, c', d', e'⟩ := id h
  obtain ⟨r, x2, m2, p1, p2, p3, s, t⟩ := E_hit a1 a2 b1 c seed
  exact ⟨r, x2, m2, p1, p2, h.light s t (by decide) (by decide) (by decide) p3 ((b2.fx s (by decide)).fm t (by decide) (by decide)) ((b3.fx s (by decide)).fm t (by decide) (by decide)) ((b4.fx s (by decide)).fm t (by decide) (by rw [t.1 26 (by decide)]; exact Int.le_refl _)) (fun L q => (q.fx s (by decide)).fm t (by decide) (by decide))⟩
theorem R_putt {x m : am_H} (h : Rel x m) (seed : Int32) : RR (f_Club_putt x seed) (f_Model_putt m seed) := by
  obtain ⟨L, ⟨a1, a2, a3⟩, ⟨b1, b2, b3, b4⟩, c', d', e'⟩ := id h
  obtain ⟨r, x2, m2, p1, p2, p3, s, t⟩ := E_putt a1 b1 seed
  exact ⟨r, x2, m2, p1, p2, h.light s t (by decide) (by decide) (by decide) p3 ((b2.fx s (by decide)).fm t (by decide) (by decide)) ((b3.fx s (by decide)).fm t (by decide) (by decide)) ((b4.fx s (by decide)).fm t (by decide) (by rw [t.1 26 (by decide)]; exact Int.le_refl _)) (fun L q => (q.fx s (by decide)).fm t (by decide) (by decide))⟩
theorem R_act {x m : am_H} (h : Rel x m) (b a v : Int32) : RR (f_Club_act x b a v) (f_Model_act m b a v) := by
  obtain ⟨L, ⟨a1, a2, a3⟩, ⟨b1, b2, b3, b4⟩, c', d', e'⟩ := id h
  obtain ⟨r, x2, m2, p1, p2, p3, s, t⟩ := E_act b2 b a v
  exact ⟨r, x2, m2, p1, p2, h.light s t (by decide) (by decide) (by decide) ((b1.fx s (by decide)).fm t (by decide) (by decide)) p3 ((b3.fx s (by decide)).fm t (by decide) (by decide)) ((b4.fx s (by decide)).fm t (by decide) (by rw [t.1 26 (by decide)]; exact Int.le_refl _)) (fun L q => (q.fx s (by decide)).fm t (by decide) (by decide))⟩
theorem R_believed {x m : am_H} (h : Rel x m) (c : Int32) : RR (f_Club_believed x c) (f_Model_believed m c) := by
  obtain ⟨L, ⟨a1, a2, a3⟩, ⟨b1, b2, b3, b4⟩, c', d', e'⟩ := id h
  obtain ⟨r, x2, m2, p1, p2, s, t⟩ := E_believed c' a1 a2 d' c
  exact ⟨r, x2, m2, p1, p2, h.light s t (by decide) (by decide) (by decide) ((b1.fx s (by decide)).fm t (by decide) (by decide)) ((b2.fx s (by decide)).fm t (by decide) (by decide)) ((b3.fx s (by decide)).fm t (by decide) (by decide)) ((b4.fx s (by decide)).fm t (by decide) (by rw [t.1 26 (by decide)]; exact Int.le_refl _)) (fun L q => (q.fx s (by decide)).fm t (by decide) (by decide))⟩
/-- a word that works something out, or changes the hole -/
theorem Rel.deep {x x2 m m2 : am_H} {ks ss ls : List Nat} {L : Option ((Nat → Int32) → Int32)} (hG : RD x m ∧ RW x m ∧ RT0 x m ∧ RS x m) (hL : RTL x m L) (s : sx ks x x2) (t : sm ss ls m m2) (hk : ∀ k ∈ ks, k ∉ [6, 7, 9, 19, 20, 21, 27, 28, 29] ∧ k < 31) (hs : ∀ i ∈ ss, i ∉ [8, 10, 22, 24, 26, 29]) (hl : ∀ i ∈ ls, i ∉ [5, 6, 12, 13, 14, 15, 16, 17, 18])
    (hR : RH x2 m2) (hV : VM m2) (hC : RC x2 m2) (hu : x2.1 12 11 = 0) (hK : KAll x2 m2 L) : Rel x2 m2 := by
  obtain ⟨b1, b2, b3, b4⟩ := hG
  have nk : ∀ k, k ∈ [6, 7, 9, 19, 20, 21, 27, 28, 29] → k ∉ ks := fun k h1 h2 => (hk k h2).1 h1
  have ns : ∀ k, k ∈ [8, 10, 22, 24, 26, 29] → k ∉ ss := fun k h1 h2 => hs k h2 h1
  have nl : ∀ k, k ∈ [5, 6, 12, 13, 14, 15, 16, 17, 18] → k ∉ ls := fun k h1 h2 => hl k h2 h1
  exact ⟨L, ⟨hR, hV, hC⟩, ⟨(b1.fx s ⟨nk 19 (by simp), nk 20 (by simp), nk 21 (by simp)⟩).fm t ⟨ns 22 (by simp), ns 24 (by simp)⟩ ⟨nl 12 (by simp), nl 13 (by simp)⟩, (b2.fx s ⟨nk 27 (by simp), nk 28 (by simp), nk 29 (by simp)⟩).fm t ⟨ns 26 (by simp), ns 29 (by simp)⟩ ⟨nl 14 (by simp), nl 15 (by simp)⟩, (b3.fx s ⟨nk 6 (by simp), nk 7 (by simp)⟩).fm t (ns 8 (by simp)) (nl 5 (by simp)), (b4.fx s (fun k q => (hk k q).2)).fm t ⟨nl 16 (by simp), nl 17 (by simp), nl 18 (by simp)⟩ (by rw [t.1 26 (ns 26 (by simp))]; exact Int.le_refl _)⟩, (hL.fx s ⟨nk 6 (by simp), nk 9 (by simp)⟩).fm t (ns 10 (by simp)) (nl 6 (by simp)), hu, hK⟩
theorem R_strokes {x m : am_H} (h : Rel x m) (a b c : Int32) : RR (f_Club_strokes x a b c) (f_Model_strokes m a b c) := by
  obtain ⟨L, ⟨a1, a2, a3⟩, hG, c', d', ⟨k1, k2, k3, k4⟩⟩ := id h
  obtain ⟨r, x2, m2, p1, p2, p3, s, q1, q2, t⟩ := E_strokes a1 a2 k1 a b c
  have e1 := (t.2.2 1 (by decide) (by decide)).1
  have e6 := t.1 6 (by decide)
  have hV := a2.row e1 e6
  exact ⟨r, x2, m2, p1, p2, Rel.deep hG c' s t (by decide) (by decide) (by decide) ((a1.fx s (by decide)).row e1 e6) hV (a3.of a2 hV s (by decide) t (by decide) (by decide)) (by rw [q1 11 (by decide)]; exact d') ⟨p3, (k2.fx (q1 9 (by decide)) (q1 12 (by decide)) (by rw [q2])).fm e1 e6, (k3.fx (q1 7 (by decide)) (q1 8 (by decide)) (s 14 (by decide)).2 (s 16 (by decide)).1).fm e1 e6, (k4.fx (q1 10 (by decide)) (by rw [q2])).fm e1 e6⟩⟩
theorem R_me {x m : am_H} (h : Rel x m) {fx fm : Option (Int32 × am_H)} (hm : RMe x m fx fm) : RR fx fm := by
  obtain ⟨L, ⟨a1, a2, a3⟩, hG, c', d', hK⟩ := id h
  obtain ⟨r, x2, m2, p1, p2, p3, p4, p5, p6, s, q1, -, t⟩ := hm
  refine ⟨r, x2, m2, p1, p2, ?_⟩
  rcases p6 with ⟨w1, w2⟩ | ⟨w1, w2⟩
  · rw [w1, w2]; exact h
  · exact Rel.deep hG c' s t (by decide) (by decide) (by decide) p3 p4 p5 (by rw [q1]; exact d') (KAll.zero w1 m2 L)
theorem R_gr {x m : am_H} (h : Rel x m) {fx fm : Option (Int32 × am_H)} (hm : RGr x m fx fm) : RR fx fm := by
  obtain ⟨L, ⟨a1, a2, a3⟩, hG, c', d', hK⟩ := id h
  obtain ⟨r, x2, m2, p1, p2, p3, p4, p5, p6, s, q1, t⟩ := hm
  refine ⟨r, x2, m2, p1, p2, ?_⟩
  rcases p6 with ⟨w1, w2⟩ | ⟨w1, w2⟩
  · rw [w1, w2]; exact h
  · exact Rel.deep hG c' s t (by decide) (by decide) (by decide) p3 p4 p5 (by rw [q1]; exact d') (KAll.zero w1 m2 L)
theorem R_mend {x m : am_H} (h : Rel x m) (a b c : Int32) : RR (f_Club_mend x a b c) (f_Model_mend m a b c) := by
  obtain ⟨L, ⟨a1, a2, a3⟩, hG, c', d', hK⟩ := id h
  exact R_me h (E_mend a1 a2 a3 hK.kf a b c)
theorem R_undo {x m : am_H} (h : Rel x m) : RR (f_Club_undo x) (f_Model_undo m) := by
  obtain ⟨L, ⟨a1, a2, a3⟩, hG, c', d', hK⟩ := id h
  exact R_me h (E_undo a1 a2 a3 hK.kf)
theorem R_redo {x m : am_H} (h : Rel x m) : RR (f_Club_redo x) (f_Model_redo m) := by
  obtain ⟨L, ⟨a1, a2, a3⟩, hG, c', d', hK⟩ := id h
  exact R_me h (E_redo a1 a2 a3 hK.kf)
theorem R_club {x m : am_H} (h : Rel x m) (a : Int32) : RR (f_Club_club x a) (f_Model_club m a) := by
  obtain ⟨L, ⟨a1, a2, a3⟩, hG, c', d', hK⟩ := id h
  exact R_gr h (E_club a1 a2 a3 hK.kf a)
theorem R_clubs {x m : am_H} (h : Rel x m) (a b c : Int32) : RR (f_Club_clubs x a b c) (f_Model_clubs m a b c) := by
  obtain ⟨L, ⟨a1, a2, a3⟩, hG, c', d', hK⟩ := id h
  exact R_gr h (E_clubs a1 a2 a3 hK.kf hG.2.2.2 a b c)
theorem R_practise {x m : am_H} (h : Rel x m) (p : Int32) : RR (f_Club_practise x p) (f_Model_practise m p) := by
  obtain ⟨L, ⟨a1, a2, a3⟩, hG, c', d', ⟨k1, k2, k3, k4⟩⟩ := id h
  obtain ⟨r, x2, m2, p1, p2, p3, p4, p5, s, q1, q2, t, e1⟩ := E_practise a1 a2 k1 k2 p
  have e6 := t.1 6 (by decide)
  have hV := a2.row e1 e6
  exact ⟨r, x2, m2, p1, p2, Rel.deep hG c' s t (by decide) (by decide) (by decide) p3 hV (a3.of a2 hV s (by decide) t (by decide) (by decide)) (by rw [q1 11 (by decide) (by decide) (by decide)]; exact d') ⟨p4, p5, (k3.fx (q1 7 (by decide) (by decide) (by decide)) (q1 8 (by decide) (by decide) (by decide)) (s 14 (by decide)).2 (s 16 (by decide)).1).fm e1 e6, (k4.fx (q1 10 (by decide) (by decide) (by decide)) (q2 14 (by decide))).fm e1 e6⟩⟩
theorem R_lw {x m : am_H} {L : Option ((Nat → Int32) → Int32)} {fx fm : Option (Int64 × am_H)} (hh : (RH x m ∧ VM m ∧ RC x m) ∧ (RD x m ∧ RW x m ∧ RT0 x m ∧ RS x m) ∧ RTL x m L ∧ x.1 12 11 = 0 ∧ KAll x m L) (hm : RLw x m L fx fm) : RR fx fm := by
  obtain ⟨⟨a1, a2, a3⟩, hG, c', d', ⟨k1, k2, k3, k4⟩⟩ := hh
  obtain ⟨r, x2, m2, p1, p2, p3, s, q1, q2, t⟩ := hm
  have e1 := (t.2.2 1 (by decide) (by decide)).1
  have e6 := t.1 6 (by decide)
  have hV := a2.row e1 e6
  exact ⟨r, x2, m2, p1, p2, Rel.deep hG c' s t (by decide) (by decide) (by decide) ((a1.fx s (by decide)).row e1 e6) hV (a3.of a2 hV s (by decide) t (by decide) (by decide)) (by rw [q1 11 (by decide) (by decide)]; exact d') ⟨(KB.fx k1 (q1 6 (by decide) (by decide)) (fun j _ => by rw [(s 13 (by decide)).2]) (fun j _ => by rw [(s 15 (by decide)).1])).row e1 e6, (k2.fx (q1 9 (by decide) (by decide)) (q1 12 (by decide) (by decide)) (by rw [q2])).fm e1 e6, p3, (k4.fx (q1 10 (by decide) (by decide)) (by rw [q2])).fm e1 e6⟩⟩
theorem R_byLaw {x m : am_H} (h : Rel x m) (a b c : Int32) : RR (f_Club_byLaw x a b c) (f_Model_byLaw m a b c) := by
  obtain ⟨L, hh⟩ := h
  exact R_lw hh (E_byLaw hh.2.2.1 hh.1.1 hh.1.2.1 hh.2.2.2.1 hh.2.2.2.2.2.2.1 a b c)
theorem R_lie {x m : am_H} (h : Rel x m) (a b c : Int32) : RR (f_Club_lie x a b c) (f_Model_lie m a b c) := by
  obtain ⟨L, hh⟩ := h
  exact R_lw hh (E_lie hh.2.2.1 hh.1.1 hh.1.2.1 hh.2.2.2.1 hh.2.2.2.2.2.2.1 a b c)
theorem R_dream {x m : am_H} (h : Rel x m) (p : Int32) : RR (f_Club_dream x p) (f_Model_dream m p) := by
  obtain ⟨L, ⟨a1, a2, a3⟩, hG, c', d', ⟨k1, k2, k3, k4⟩⟩ := id h
  obtain ⟨r, x2, m2, p1, p2, p3, p4, s, q1, q2, t, e1⟩ := E_dream c' a1 a2 d' k3 k4 p
  have e6 := t.1 6 (by decide)
  have hV := a2.row e1 e6
  exact ⟨r, x2, m2, p1, p2, Rel.deep hG c' s t (by decide) (by decide) (by decide) ((a1.fx s (by decide)).row e1 e6) hV (a3.of a2 hV s (by decide) t (by decide) (by decide)) (by rw [q1 11 (by decide) (by decide) (by decide)]; exact d') ⟨(KB.fx k1 (q1 6 (by decide) (by decide) (by decide)) (fun j _ => by rw [(s 13 (by decide)).2]) (fun j _ => by rw [(s 15 (by decide)).1])).row e1 e6, (k2.fx (q1 9 (by decide) (by decide) (by decide)) (q1 12 (by decide) (by decide) (by decide)) (q2 13 (by decide))).fm e1 e6, p3, p4⟩⟩
theorem R_guessed {x m : am_H} (h : Rel x m) (d : Int32) : RR (f_Club_guessed x d) (f_Model_guessed m d) := by
  obtain ⟨L, ⟨a1, a2, a3⟩, hG, c', d', ⟨k1, k2, k3, k4⟩⟩ := id h
  obtain ⟨r, x2, m2, p1, p2, p3, s, q1, q2, t⟩ := E_guessed c' a1 a2 hG.2.2.2 d' k3 d
  have e1 := (t.2.2 1 (by decide) (by decide)).1
  have e6 := t.1 6 (by decide)
  have hV := a2.row e1 e6
  exact ⟨r, x2, m2, p1, p2, Rel.deep hG c' s t (by decide) (by decide) (by decide) ((a1.fx s (by decide)).row e1 e6) hV (a3.of a2 hV s (by decide) t (by decide) (by decide)) (by rw [q1 11 (by decide)]; exact d') ⟨(KB.fx k1 (q1 6 (by decide)) (fun j _ => by rw [(s 13 (by decide)).2]) (fun j _ => by rw [(s 15 (by decide)).1])).row e1 e6, (k2.fx (q1 9 (by decide)) (q1 12 (by decide)) (by rw [q2])).fm e1 e6, p3, (k4.fx (q1 10 (by decide)) (by rw [q2])).fm e1 e6⟩⟩
theorem R_drawn {x m : am_H} (h : Rel x m) (a b c : Int32) : RR (f_Club_drawn x a b c) (f_Model_drawn m a b c) := by
  obtain ⟨L, ⟨a1, a2, a3⟩, hG, c', d', ⟨k1, k2, k3, k4⟩⟩ := id h
  obtain ⟨r, x2, m2, p1, p2, p3, p4, s, q1, q2, t⟩ := E_drawn c' a1 a2 d' k1 k3 a b c
  have e1 := (t.2.2 1 (by decide) (by decide)).1
  have e6 := t.1 6 (by decide)
  have hV := a2.row e1 e6
  exact ⟨r, x2, m2, p1, p2, Rel.deep hG c' s t (by decide) (by decide) (by decide) ((a1.fx s (by decide)).row e1 e6) hV (a3.of a2 hV s (by decide) t (by decide) (by decide)) (by rw [q1 11 (by decide) (by decide)]; exact d') ⟨p3, (k2.fx (q1 9 (by decide) (by decide)) (q1 12 (by decide) (by decide)) (by rw [q2])).fm e1 e6, p4, (k4.fx (q1 10 (by decide) (by decide)) (by rw [q2])).fm e1 e6⟩⟩
theorem RR_law {x m : am_H} (h : Rel x m) : RR (f_Club_law x) (f_Model_law m) := by
  obtain ⟨L, ⟨a1, a2, a3⟩, ⟨b1, b2, b3, b4⟩, c', d', hK⟩ := id h
  obtain ⟨r, x2, m2, L2, p1, p2, p3, p4, p5, p6, s, q1, t⟩ := E_law b3 c' hK.kf
  have hV := a2.fr t (by decide) (by decide)
  exact ⟨r, x2, m2, p1, p2, L2, ⟨(a1.fx s (by decide)).fm t (by decide) (by decide), hV, a3.of a2 hV s (by decide) t (by decide) (by decide)⟩, ⟨(b1.fx s (by decide)).fm t (by decide) (by decide), (b2.fx s (by decide)).fm t (by decide) (by decide), p3, (b4.fx s (by decide)).fm t (by decide) (by rw [t.1 26 (by decide)]; exact Int.le_refl _)⟩, p4, by rw [q1]; exact d', KAll.zero p5 m2 L2⟩
