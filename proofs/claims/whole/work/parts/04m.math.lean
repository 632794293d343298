/-! Math.abs, max, min: the kit's rows -/
section AmMath
variable {X : am_X} {pc : Nat} {ls : List (Option Value)} {st : List Value} {h : am_H} {Q : am_Q}
theorem am_mw {ad : Nat → Nat} {d : Nat} (hW : (st.map fun v => v.category).sum ≤ 8) : ((st.map (am_v ad)).map fun v => v.category).sum + 13 ≤ (am_rm d).locals := by
  have := am_cats (ad := ad) hW
  simp only [am_rm]
  omega
theorem wm_abs_c : Cond.code Lib.Math.abs.name Lib.Math.abs.code 1 (some .int) ∈ am_T := am_in 753 (by decide +kernel) (by decide +kernel)
theorem wm_abs_s : Cond.static Lib.Math.abs.name ∈ am_T := am_in 752 (by decide +kernel) (by decide +kernel)
theorem wm_absl_c : Cond.code Lib.MathLoose.abs_long.x Lib.MathLoose.abs_long.code 2 (some .long) ∈ am_T := am_in 717 (by decide +kernel) (by decide +kernel)
theorem wm_absl_s : Cond.static Lib.MathLoose.abs_long.x ∈ am_T := am_in 716 (by decide +kernel) (by decide +kernel)
theorem wm_max_c : Cond.code Lib.Math.max.name Lib.Math.max.code 2 (some .int) ∈ am_T := am_in 595 (by decide +kernel) (by decide +kernel)
theorem wm_max_s : Cond.static Lib.Math.max.name ∈ am_T := am_in 594 (by decide +kernel) (by decide +kernel)
theorem wm_min_c : Cond.code Lib.Math.min.name Lib.Math.min.code 2 (some .int) ∈ am_T := am_in 459 (by decide +kernel) (by decide +kernel)
theorem wm_min_s : Cond.static Lib.Math.min.name ∈ am_T := am_in 458 (by decide +kernel) (by decide +kernel)
theorem wm_ini : Cond.initialized "java/lang/Math" ∈ am_T := am_in 95 (by decide +kernel) (by decide +kernel)
theorem am_mabs {index : Nat} {x : Int32} (hlink : Cond.methodLink X.2.1 index Lib.Math.abs.name ∈ am_T) (hd : decode X.2.2.1 pc = .ok (.invokestatic index, 3)) (hW : (st.map fun v => v.category).sum ≤ 8) (kk : am_W X (pc + 3) ls (.int (if 0 ≤ x then x else 0 - x) :: st) h Q) : am_W X pc ls (.int x :: st) h Q := by
  intro p l e s m args below meth c H locs lsC D g ad sz C hl
  obtain ⟨hx, hb, hml, hown, hr, hts, hlk, hsz, hK, hP, hI, hS, hZ⟩ := id C
  exact va_mabs hx hb (hml.trans hl.1.symm) hown (hts _ hlink) (hts _ wm_abs_s) (hts _ wm_ini) (hts _ wm_abs_c) (by simp [am_rm]) (am_mw hW) (Nat.zero_le _) (Nat.zero_le _) hd (kk p l e s m args below meth c H locs lsC D g ad sz C hl)
theorem am_mabsl {index : Nat} {x : Int64} (hlink : Cond.methodLink X.2.1 index Lib.MathLoose.abs_long.x ∈ am_T) (hd : decode X.2.2.1 pc = .ok (.invokestatic index, 3)) (hW : (st.map fun v => v.category).sum ≤ 8) (kk : am_W X (pc + 3) ls (.long (if 0 < x then x else -x) :: st) h Q) : am_W X pc ls (.long x :: st) h Q := by
  intro p l e s m args below meth c H locs lsC D g ad sz C hl
  obtain ⟨hx, hb, hml, hown, hr, hts, hlk, hsz, hK, hP, hI, hS, hZ⟩ := id C
  exact va_mabs_long hx hb (hml.trans hl.1.symm) hown (hts _ hlink) (hts _ wm_absl_s) (hts _ wm_ini) (hts _ wm_absl_c) (by simp [am_rm]) (am_mw hW) (Nat.zero_le _) (Nat.zero_le _) hd (kk p l e s m args below meth c H locs lsC D g ad sz C hl)
theorem am_mmax {index : Nat} {x y : Int32} (hlink : Cond.methodLink X.2.1 index Lib.Math.max.name ∈ am_T) (hd : decode X.2.2.1 pc = .ok (.invokestatic index, 3)) (hW : (st.map fun v => v.category).sum ≤ 8) (kk : am_W X (pc + 3) ls (.int (if x < y then y else x) :: st) h Q) : am_W X pc ls (.int y :: .int x :: st) h Q := by
  intro p l e s m args below meth c H locs lsC D g ad sz C hl
  obtain ⟨hx, hb, hml, hown, hr, hts, hlk, hsz, hK, hP, hI, hS, hZ⟩ := id C
  exact va_mmax hx hb (hml.trans hl.1.symm) hown (hts _ hlink) (hts _ wm_max_s) (hts _ wm_ini) (hts _ wm_max_c) (by simp [am_rm]) (am_mw hW) (Nat.zero_le _) (Nat.zero_le _) hd (kk p l e s m args below meth c H locs lsC D g ad sz C hl)
theorem am_mmin {index : Nat} {x y : Int32} (hlink : Cond.methodLink X.2.1 index Lib.Math.min.name ∈ am_T) (hd : decode X.2.2.1 pc = .ok (.invokestatic index, 3)) (hW : (st.map fun v => v.category).sum ≤ 8) (kk : am_W X (pc + 3) ls (.int (if y < x then y else x) :: st) h Q) : am_W X pc ls (.int y :: .int x :: st) h Q := by
  intro p l e s m args below meth c H locs lsC D g ad sz C hl
  obtain ⟨hx, hb, hml, hown, hr, hts, hlk, hsz, hK, hP, hI, hS, hZ⟩ := id C
  exact va_mmin hx hb (hml.trans hl.1.symm) hown (hts _ hlink) (hts _ wm_min_s) (hts _ wm_ini) (hts _ wm_min_c) (by simp [am_rm]) (am_mw hW) (Nat.zero_le _) (Nat.zero_le _) hd (kk p l e s m args below meth c H locs lsC D g ad sz C hl)
end AmMath
