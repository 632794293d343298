/-! the whole relation, kept by every word -/
def KAll (x m : am_H) (L : Option ((Nat → Int32) → Int32)) : Prop := KB x m ∧ KP x m ∧ KLw x m L ∧ KD x m L
def Rel (x m : am_H) : Prop := ∃ L, (RH x m ∧ VM m ∧ RC x m) ∧ (RD x m ∧ RW x m ∧ RT0 x m ∧ RS x m) ∧ RTL x m L ∧ x.1 12 11 = 0 ∧ KAll x m L
def RR {α : Type} (fx fm : Option (α × am_H)) : Prop := ∃ r x2 m2, fx = some (r, x2) ∧ fm = some (r, m2) ∧ Rel x2 m2
theorem KAll.zero {x : am_H} (h : KZ x) (m : am_H) (L : Option ((Nat → Int32) → Int32)) : KAll x m L := by
  obtain ⟨h1, h2, h3, h4, h5⟩ := h
  refine ⟨KB.zero h1, fun q => absurd h4 q, ⟨fun _ => h2, fun j hj => Or.inl (h2 j hj), fun q => absurd h3 q⟩, fun q => absurd h5 q⟩
theorem KAll.f {x m : am_H} {L : Option ((Nat → Int32) → Int32)} (h : KF x) (_ : KAll x m L) : KF x := h
theorem KAll.kf {x m : am_H} {L : Option ((Nat → Int32) → Int32)} (h : KAll x m L) : KF x := ⟨h.1.1, h.2.2.1.1⟩
theorem KB.row {x m m2 : am_H} (h : KB x m) (e1 : m2.1 1 = m.1 1) (e6 : m2.1 0 6 = m.1 0 6) : KB x m2 := by
  unfold KB
  rw [rJ_c e1 e6, fB_c e1 e6, grB_c e1, bestF_c e1 e6, rowG_c e1 e6, e6]
  exact h
theorem KD.fm {x m m2 : am_H} {L : Option ((Nat → Int32) → Int32)} (h : KD x m L) (e1 : m2.1 1 = m.1 1) (e6 : m2.1 0 6 = m.1 0 6) : KD x m2 L := by
  unfold KD; rw [drS_C e1 e6]; exact h
theorem KP.fx {x x2 m : am_H} (h : KP x m) (h1 : x2.1 12 9 = x.1 12 9) (h2 : x2.1 12 12 = x.1 12 12) (h3 : x2.2 12 13 = x.2 12 13) : KP x2 m := by
  unfold KP; rw [h1, h2, h3]; exact h
theorem KD.fx {x x2 m : am_H} {L : Option ((Nat → Int32) → Int32)} (h : KD x m L) (h1 : x2.1 12 10 = x.1 12 10) (h2 : x2.2 12 14 = x.2 12 14) : KD x2 m L := by
  unfold KD; rw [h1, h2]; exact h
theorem KLw.fx {x x2 m : am_H} {L : Option ((Nat → Int32) → Int32)} (h : KLw x m L) (h1 : x2.1 12 7 = x.1 12 7) (h2 : x2.1 12 8 = x.1 12 8) (h3 : x2.2 14 = x.2 14) (h4 : x2.1 16 = x.1 16) : KLw x2 m L := by
  unfold KLw KT; rw [h1, h2, h3, h4]; exact h
theorem KAll.fr {x x2 m m2 : am_H} {L : Option ((Nat → Int32) → Int32)} {ks : List Nat} (h : KAll x m L) (s : sx ks x x2) (hk : 12 ∉ ks ∧ 13 ∉ ks ∧ 14 ∉ ks ∧ 15 ∉ ks ∧ 16 ∉ ks) (e1 : m2.1 1 = m.1 1) (e6 : m2.1 0 6 = m.1 0 6) : KAll x2 m2 L := by
  obtain ⟨a, b, c, d⟩ := h
  have e12 := s 12 hk.1
  refine ⟨(KB.fx a (by rw [e12.1]) (fun j _ => by rw [(s 13 hk.2.1).2]) (fun j _ => by rw [(s 15 hk.2.2.2.1).1])).row e1 e6, (b.fx (by rw [e12.1]) (by rw [e12.1]) (by rw [e12.2])).fm e1 e6, (c.fx (by rw [e12.1]) (by rw [e12.1]) (s 14 hk.2.2.1).2 (s 16 hk.2.2.2.2).1).fm e1 e6, (d.fx (by rw [e12.1]) (by rw [e12.2])).fm e1 e6⟩
theorem RC.of {x x2 m m2 : am_H} {ks ss ls : List Nat} (h : RC x m) (hV : VM m) (hV2 : VM m2) (s : sx ks x x2) (hk : 22 ∉ ks ∧ 23 ∉ ks ∧ 24 ∉ ks ∧ 25 ∉ ks ∧ 26 ∉ ks) (t : sm ss ls m m2) (h1 : 4 ∉ ss ∧ 5 ∉ ss ∧ 6 ∉ ss) (h2 : 2 ∉ ls ∧ 3 ∉ ls ∧ 4 ∉ ls) : RC x2 m2 := by
  have e6 := t.1 6 h1.2.2
  have ep : ∀ n w, plS m2 n w = plS m n w := fun n w => plS_c hV hV2 e6 n w
  unfold RC at *
  rw [(s 22 hk.1).1, (s 23 hk.2.1).1, (s 24 hk.2.2.1).1, (s 25 hk.2.2.2.1).1, (s 26 hk.2.2.2.2).1, t.1 4 h1.1, t.1 5 h1.2.1, (t.2.2 2 (by decide) h2.1).1, (t.2.2 3 (by decide) h2.2.1).1, (t.2.2 4 (by decide) h2.2.2).1]
  obtain ⟨a1, a2, a3, a4, a5, a6⟩ := h
  refine ⟨a1, a2, a3, a4, a5, fun i hi => ?_⟩
  obtain ⟨b1, b2⟩ := a6 i hi
  exact ⟨by rw [ep]; exact b1, b2⟩
/-- a word that leaves the hole, the clubs, the law and what was worked out -/
theorem Rel.light {x x2 m m2 : am_H} {ks ss ls : List Nat} (h : Rel x m) (s : sx ks x x2) (t : sm ss ls m m2) (hk : ∀ k ∈ ks, k ∉ [1, 2, 3, 4, 5, 12, 13, 14, 15, 16, 22, 23, 24, 25, 26]) (hs : ∀ i ∈ ss, i ∉ [4, 5, 6]) (hl : ∀ i ∈ ls, i ∉ [1, 2, 3, 4])
    (hD : RD x2 m2) (hW : RW x2 m2) (hT : RT0 x2 m2) (hS : RS x2 m2) (hL : ∀ L, RTL x m L → RTL x2 m2 L) : Rel x2 m2 := by
  obtain ⟨L, ⟨a, b, c⟩, -, d, e, f⟩ := h
  have nk : ∀ k, k ∈ [1, 2, 3, 4, 5, 12, 13, 14, 15, 16, 22, 23, 24, 25, 26] → k ∉ ks := fun k h1 h2 => hk k h2 h1
  have ns : ∀ k, k ∈ [4, 5, 6] → k ∉ ss := fun k h1 h2 => hs k h2 h1
  have nl : ∀ k, k ∈ [1, 2, 3, 4] → k ∉ ls := fun k h1 h2 => hl k h2 h1
  have hV := b.fr t (ns 6 (by simp)) (nl 1 (by simp))
  refine ⟨L, ⟨(a.fx s ⟨nk 1 (by simp), nk 2 (by simp), nk 3 (by simp), nk 4 (by simp), nk 5 (by simp)⟩).fm t (ns 6 (by simp)) (nl 1 (by simp)), hV, c.of b hV s ⟨nk 22 (by simp), nk 23 (by simp), nk 24 (by simp), nk 25 (by simp), nk 26 (by simp)⟩ t ⟨ns 4 (by simp), ns 5 (by simp), ns 6 (by simp)⟩ ⟨nl 2 (by simp), nl 3 (by simp), nl 4 (by simp)⟩⟩, ⟨hD, hW, hT, hS⟩, hL L d, by rw [(s 12 (nk 12 (by simp))).1]; exact e, f.fr s ⟨nk 12 (by simp), nk 13 (by simp), nk 14 (by simp), nk 15 (by simp), nk 16 (by simp)⟩ (t.2.2 1 (by decide) (nl 1 (by simp))).1 (t.1 6 (ns 6 (by simp)))⟩
