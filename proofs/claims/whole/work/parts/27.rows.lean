/-! rows of strokes on the mean; the class's table of them -/
def ptS (m : am_H) (c : Int32) : Int32 := if c = m.1 1 49 then 12 else 24 - m.1 1 51
def unS (m : am_H) (c : Int32) : Int32 := 2 + (if 0 ≤ (c - m.1 1 49) then (c - m.1 1 49) else 0 - (c - m.1 1 49)) / 5
def rowG (m : am_H) (f : (Int32 → Int64) → Nat → Int32 → Int64) : Nat → Int32 → Int64
  | 0, c => if grB m c = true then (ptS m c).toInt64 * (Un 0 / 12) else (unS m c).toInt64 * Un 0
  | n + 1, c => if grB m c = true then (ptS m c).toInt64 * (Un (n + 1) / 12) else if m.1 0 6 = 0 then (unS m c).toInt64 * Un (n + 1) else f (rowG m f n) (n + 1) c
def bestF (m : am_H) (row : Int32 → Int64) (n : Nat) (cell : Int32) : Int32 × Int64 := cfold (fun c a => if byC m row n cell c < a.2 then (c, byC m row n cell c) else a) ((m.1 0 6).toInt.toNat - 1) 1 (0, byC m row n cell 0)
def fB (m : am_H) (row : Int32 → Int64) (n : Nat) (c : Int32) : Int64 := (bestF m row n c).2
def fL (m : am_H) (tk : Int32 → Int32) (row : Int32 → Int64) (n : Nat) (c : Int32) : Int64 := byC m row n c (tk c)
def uT (n : Nat) : Int := ([12, 1260, 132300, 13891500, 1458607500] : List Int).getD n 0
/-- no row is above this -/
def rT (n : Nat) : Int := ([1200, 128520, 13759200, 1472499000, 157529610000] : List Int).getD n 0
theorem Un_t {n : Nat} (h : n ≤ 4) : (Un n).toInt = uT n := by
  match n, h with
  | 0, _ => decide +kernel
  | 1, _ => decide +kernel
  | 2, _ => decide +kernel
  | 3, _ => decide +kernel
  | 4, _ => decide +kernel
theorem uT_b {n : Nat} (h : n ≤ 4) : 12 ≤ uT n ∧ uT n ≤ 1458607500 ∧ 20 * uT n ≤ rT n ∧ rT n ≤ 157529610000 ∧ (1 ≤ n → uT n = 105 * uT (n - 1) ∧ rT n = uT n + 105 * (rT (n - 1) + uT (n - 1))) := by
  match n, h with
  | 0, _ => exact ⟨by decide, by decide, by decide, by decide, fun q => absurd q (by decide)⟩
  | 1, _ => exact ⟨by decide, by decide, by decide, by decide, fun _ => by decide⟩
  | 2, _ => exact ⟨by decide, by decide, by decide, by decide, fun _ => by decide⟩
  | 3, _ => exact ⟨by decide, by decide, by decide, by decide, fun _ => by decide⟩
  | 4, _ => exact ⟨by decide, by decide, by decide, by decide, fun _ => by decide⟩
theorem wU_b (m : am_H) {u : Int64} (hu : 0 ≤ u.toInt) (cell carry s : Int32) : 0 ≤ (wU m u cell carry s).toInt ∧ (wU m u cell carry s).toInt ≤ u.toInt := by
  unfold wU; split
  · omega
  · exact ⟨by decide, by have : (0 : Int64).toInt = 0 := rfl; omega⟩
theorem sumC_b (m : am_H) {row : Int32 → Int64} {u : Int64} {B : Int} {cell carry : Int32} (hc : cellB cell = true) (hr : ∀ c, cellB c = true → 0 < (row c).toInt ∧ (row c).toInt ≤ B) (hu : 0 ≤ u.toInt) (hB : B + u.toInt ≤ 1000000000000000) : ∀ (k : Nat) (s : Int32) (acc : Int64), 0 ≤ acc.toInt → acc.toInt + k * (B + u.toInt) ≤ 100000000000000000 → acc.toInt ≤ (sumC m row u cell carry k s acc).toInt ∧ (sumC m row u cell carry k s acc).toInt ≤ acc.toInt + k * (B + u.toInt) := by
  intro k
  induction k with
  | zero => intro s acc h1 h2; simp only [sumC]; omega
  | succ k ih =>
    intro s acc h1 h2
    simp only [sumC]
    have a1 := hr _ (restS_cell (m := m) hc carry s)
    have a2 := wU_b m hu cell carry s
    generalize row (restS m cell carry s) = r at *
    generalize wU m u cell carry s = w at *
    have hk : ((k + 1 : Nat) : Int) * (B + u.toInt) = k * (B + u.toInt) + (B + u.toInt) := by
      rw [Int.natCast_add, Int.add_mul]; simp
    have hk0 : 0 ≤ (k : Int) * (B + u.toInt) := Int.mul_nonneg (by omega) (by omega)
    rw [hk] at h2 ⊢
    generalize (k : Int) * (B + u.toInt) = K at *
    have b1 := tl_add r w
    have b2 : (r + w).toInt = r.toInt + w.toInt := by omega
    have b3 := tl_add acc (r + w)
    rw [b2] at b3
    have b4 : (acc + (r + w)).toInt = acc.toInt + (r.toInt + w.toInt) := by omega
    have := ih (s + 1) (acc + (r + w)) (by omega) (by omega)
    omega
theorem share_k {m : am_H} (hV : VM m) {c : Int32} (hcl : clubB m c = true) : (spN (spS m c) = 1 ∧ (tv_SHARES (spS m c)).toInt64.toInt = 105) ∨ (spN (spS m c) = 3 ∧ (tv_SHARES (spS m c)).toInt64.toInt = 35) ∨ (spN (spS m c) = 5 ∧ (tv_SHARES (spS m c)).toInt64.toInt = 21) ∨ (spN (spS m c) = 7 ∧ (tv_SHARES (spS m c)).toInt64.toInt = 15) := by
  have hsp := spS_b hV hcl
  rw [ti_wide]
  have : spS m c = 0 ∨ spS m c = 1 ∨ spS m c = 2 ∨ spS m c = 3 := by
    rw [ti_eq, ti_eq, ti_eq, ti_eq]
    have z0 : (0 : Int32).toInt = 0 := rfl
    have z1 : (1 : Int32).toInt = 1 := rfl
    have z2 : (2 : Int32).toInt = 2 := rfl
    have z3 : (3 : Int32).toInt = 3 := rfl
    omega
  rcases this with h | h | h | h <;> rw [h] <;> decide
theorem byC_b {m : am_H} (hV : VM m) {row : Int32 → Int64} {cell c : Int32} {n : Nat} (hc : cellB cell = true) (hcl : clubB m c = true) (hn : 1 ≤ n ∧ n ≤ 4) (hr : ∀ c, cellB c = true → 0 < (row c).toInt ∧ (row c).toInt ≤ rT (n - 1)) : 0 < (byC m row n cell c).toInt ∧ (byC m row n cell c).toInt ≤ rT n := by
  have u1 := Un_t (n := n) hn.2
  have u2 := Un_t (n := n - 1) (by omega)
  obtain ⟨v1, v2, -, v4, v5⟩ := uT_b (n := n) hn.2
  obtain ⟨v6, v7⟩ := v5 hn.1
  obtain ⟨w1, w2, -, w4, -⟩ := uT_b (n := n - 1) (by omega)
  have B0 : 0 ≤ rT (n - 1) := by have := hr cell hc; omega
  have z0 : (0 : Int64).toInt = 0 := rfl
  have hN : spN (spS m c) ≤ 7 := spN_b hV hcl
  have k1 : (spN (spS m c) : Int) * (rT (n - 1) + (Un (n - 1)).toInt) ≤ 7 * (rT (n - 1) + (Un (n - 1)).toInt) := Int.mul_le_mul_of_nonneg_right (by omega) (by omega)
  have s1 := sumC_b m (carry := caS m c) hc hr (u := Un (n - 1)) (by omega) (by omega) (spN (spS m c)) (-spS m c) 0 (by decide) (by omega)
  have hk := share_k hV hcl
  unfold byC
  generalize sumC m row (Un (n - 1)) cell (caS m c) (spN (spS m c)) (-spS m c) 0 = S at *
  generalize (tv_SHARES (spS m c)).toInt64 = q at *
  have e1 := tl_mul S q
  have e3 := tl_add (Un n) (S * q)
  rw [u1] at e3
  rw [u2] at s1 k1
  have hP : 0 ≤ S.toInt * q.toInt ∧ S.toInt * q.toInt ≤ 105 * (rT (n - 1) + uT (n - 1)) := by
    rcases hk with ⟨a, b⟩ | ⟨a, b⟩ | ⟨a, b⟩ | ⟨a, b⟩ <;> rw [a] at s1 <;> rw [b] <;> omega
  generalize S.toInt * q.toInt = P at *
  have e2 : (S * q).toInt = P := by omega
  rw [e2] at e3
  have e4 : (Un n + S * q).toInt = uT n + P := by omega
  omega
theorem cfold_pres {α : Type} (P : α → Prop) (g : Int32 → α → α) (lim : Int) : ∀ (k : Nat) (c : Int32) (a : α), (∀ c a, 0 ≤ c.toInt → c.toInt < lim → P a → P (g c a)) → 0 ≤ c.toInt → c.toInt + k ≤ lim → lim ≤ 1000 → P a → P (cfold g k c a) := by
  intro k
  induction k with
  | zero => intro c a _ _ _ _ h; exact h
  | succ k ih =>
    intro c a hg h0 h1 h2 h
    have e := ti_add c 1
    have z1 : (1 : Int32).toInt = 1 := rfl
    rw [z1] at e
    exact ih (c + 1) (g c a) hg (by omega) (by omega) h2 (hg c a h0 (by omega) h)
theorem bestF_b {m : am_H} (hV : VM m) (h0 : ¬ m.1 0 6 = 0) {row : Int32 → Int64} {cell : Int32} {n : Nat} (hc : cellB cell = true) (hn : 1 ≤ n ∧ n ≤ 4) (hr : ∀ c, cellB c = true → 0 < (row c).toInt ∧ (row c).toInt ≤ rT (n - 1)) : clubB m (bestF m row n cell).1 = true ∧ 0 < (bestF m row n cell).2.toInt ∧ (bestF m row n cell).2.toInt ≤ rT n := by
  have hcs := hV.2
  have z0 : (0 : Int32).toInt = 0 := rfl
  have z1 : (1 : Int32).toInt = 1 := rfl
  have hpos : 1 ≤ (m.1 0 6).toInt := by
    have : ¬ (m.1 0 6).toInt = (0 : Int32).toInt := fun q => h0 ((ti_eq _ _).mpr q)
    omega
  refine cfold_pres (fun a : Int32 × Int64 => clubB m a.1 = true ∧ 0 < a.2.toInt ∧ a.2.toInt ≤ rT n) _ (m.1 0 6).toInt _ 1 _ ?_ (by decide) (by omega) (by omega) ?_
  · intro c a h1 h2 h3
    have hcl : clubB m c = true := clubB_iff.mpr ⟨h1, h2⟩
    by_cases q : byC m row n cell c < a.2
    · rw [if_pos q]; exact ⟨hcl, byC_b hV hc hcl hn hr⟩
    · rw [if_neg q]; exact h3
  · have hcl : clubB m 0 = true := clubB_iff.mpr (by omega)
    exact ⟨hcl, byC_b hV hc hcl hn hr⟩
/-- a way of taking clubs keeps the rows in bounds -/
def okF (m : am_H) (f : (Int32 → Int64) → Nat → Int32 → Int64) : Prop := ∀ (row : Int32 → Int64) (n : Nat) (c : Int32), cellB c = true → 1 ≤ n ∧ n ≤ 4 → ¬ m.1 0 6 = 0 → (∀ c, cellB c = true → 0 < (row c).toInt ∧ (row c).toInt ≤ rT (n - 1)) → 0 < (f row n c).toInt ∧ (f row n c).toInt ≤ rT n
theorem okF_B {m : am_H} (hV : VM m) : okF m (fB m) := fun _ _ _ hc hn h0 hr => (bestF_b hV h0 hc hn hr).2
theorem okF_L {m : am_H} (hV : VM m) {tk : Int32 → Int32} (htk : ¬ m.1 0 6 = 0 → ∀ c, cellB c = true → clubB m (tk c) = true) : okF m (fL m tk) := fun _ _ c hc hn h0 hr => byC_b hV hc (htk h0 c hc) hn hr
theorem ptS_b {m : am_H} (hV : VM m) (c : Int32) : 12 ≤ (ptS m c).toInt ∧ (ptS m c).toInt ≤ 24 := by
  have h := hV.touch
  unfold ptS
  split
  · decide
  · have e := ti_sub 24 (m.1 1 51)
    have z : (24 : Int32).toInt = 24 := rfl
    omega
theorem unS_b {m : am_H} (hV : VM m) {c : Int32} (hc : cellB c = true) : 2 ≤ (unS m c).toInt ∧ (unS m c).toInt ≤ 20 := by
  have h := hV.pin
  have h1 := cellB_iff.mp hc
  have e := ti_sub c (m.1 1 49)
  have e2 := ti_sub 0 (c - m.1 1 49)
  have z0 : (0 : Int32).toInt = 0 := rfl
  have z2 : (2 : Int32).toInt = 2 := rfl
  have z5 : (5 : Int32).toInt = 5 := rfl
  unfold unS
  have key : ∀ d : Int32, 0 ≤ d.toInt → d.toInt ≤ 30 → 2 ≤ (2 + d / 5).toInt ∧ (2 + d / 5).toInt ≤ 20 := by
    intro d d1 d2
    have f := ti_div d (b := 5) (by decide)
    rw [if_pos d1, z5] at f
    have g := ti_add 2 (d / 5)
    omega
  split
  · rename_i q; rw [ti_le] at q; exact key _ (by omega) (by omega)
  · rename_i q; rw [ti_le] at q; exact key _ (by omega) (by omega)
theorem row_gr {m : am_H} (hV : VM m) (c : Int32) {n : Nat} (hn : n ≤ 4) : 0 < ((ptS m c).toInt64 * (Un n / 12)).toInt ∧ ((ptS m c).toInt64 * (Un n / 12)).toInt ≤ rT n := by
  have h1 := ptS_b hV c
  have hq : 1 ≤ (Un n / 12).toInt ∧ 24 * (Un n / 12).toInt ≤ rT n ∧ (Un n / 12).toInt ≤ 121550625 := by
    match n, hn with
    | 0, _ => decide +kernel
    | 1, _ => decide +kernel
    | 2, _ => decide +kernel
    | 3, _ => decide +kernel
    | 4, _ => decide +kernel
  have e := tl_mul (ptS m c).toInt64 (Un n / 12)
  rw [ti_wide] at e
  generalize (Un n / 12) = q at *
  have p1 : 1 * 1 ≤ (ptS m c).toInt * q.toInt := Int.mul_le_mul (by omega) hq.1 (by omega) (by omega)
  have p2 : (ptS m c).toInt * q.toInt ≤ 24 * q.toInt := Int.mul_le_mul_of_nonneg_right h1.2 (by omega)
  generalize (ptS m c).toInt * q.toInt = P at *
  omega
theorem row_un {m : am_H} (hV : VM m) {c : Int32} (hc : cellB c = true) {n : Nat} (hn : n ≤ 4) : 0 < ((unS m c).toInt64 * Un n).toInt ∧ ((unS m c).toInt64 * Un n).toInt ≤ rT n := by
  have h1 := unS_b hV hc
  have hu := Un_t hn
  obtain ⟨v1, v2, v3, -, -⟩ := uT_b hn
  have e := tl_mul (unS m c).toInt64 (Un n)
  rw [ti_wide, hu] at e
  have p1 : 1 * 1 ≤ (unS m c).toInt * uT n := Int.mul_le_mul (by omega) (by omega) (by omega) (by omega)
  have p2 : (unS m c).toInt * uT n ≤ 20 * uT n := Int.mul_le_mul_of_nonneg_right h1.2 (by omega)
  generalize (unS m c).toInt * uT n = P at *
  omega
theorem rowG_b {m : am_H} (hV : VM m) {f : (Int32 → Int64) → Nat → Int32 → Int64} (hf : okF m f) : ∀ (n : Nat), n ≤ 4 → ∀ c, cellB c = true → 0 < (rowG m f n c).toInt ∧ (rowG m f n c).toInt ≤ rT n := by
  intro n
  induction n with
  | zero =>
    intro hn c hc
    have a := row_gr hV c (n := 0) (by omega)
    have b := row_un hV hc (n := 0) (by omega)
    simp only [rowG]
    split
    · exact a
    · exact b
  | succ n ih =>
    intro hn c hc
    have a := row_gr hV c (n := n + 1) hn
    have b := row_un hV hc (n := n + 1) hn
    simp only [rowG]
    split
    · exact a
    · split
      · exact b
      · rename_i h0
        exact hf _ _ c hc ⟨by omega, hn⟩ h0 (ih (by omega))
