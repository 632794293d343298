/-! the classes and the array classes at the start -/
theorem lx_inst (k : Nat) (q : vw_C) (h : am_cl[k]? = some q) : Cond.instantiable q.1 q.2.2 ∈ lw_tbl := by
  match k, h with
  | 0, h => cases h; exact List.mem_of_getElem? (i := 103) (by decide +kernel)
  | 1, h => cases h; exact List.mem_of_getElem? (i := 111) (by decide +kernel)
  | 2, h => cases h; exact List.mem_of_getElem? (i := 155) (by decide +kernel)
  | 3, h => cases h; exact List.mem_of_getElem? (i := 189) (by decide +kernel)
  | 4, h => cases h; exact List.mem_of_getElem? (i := 242) (by decide +kernel)
  | 5, h => cases h; exact List.mem_of_getElem? (i := 255) (by decide +kernel)
  | 6, h => cases h; exact List.mem_of_getElem? (i := 277) (by decide +kernel)
  | 7, h => cases h; exact List.mem_of_getElem? (i := 299) (by decide +kernel)
  | 8, h => cases h; exact List.mem_of_getElem? (i := 324) (by decide +kernel)
  | 9, h => cases h; exact List.mem_of_getElem? (i := 344) (by decide +kernel)
  | 10, h => cases h; exact List.mem_of_getElem? (i := 1313) (by decide +kernel)
  | k + 11, h => simp [am_cl] at h
theorem lx_K {s : State} {b : Nat} (hts : ∀ w ∈ lw_tbl, w.before #[Value.ref b] s = true) : ∃ (D : va_G) (g : am_G), va_K D am_cl (am_tys g) s := by
  have h : ∀ k : Nat, ∃ r : ClassId × (Nat → Nat), ∀ q : vw_C, am_cl[k]? = some q → u_Kn s q.1 q.2.1 q.2.2 r.1 r.2 := by
    intro k
    cases hq : am_cl[k]? with
    | none => exact ⟨(default, fun _ => 0), fun q h => by cases h⟩
    | some q =>
      obtain ⟨cC, iS, hu⟩ := u_known (C := q.1) (T := q.2.1) (N := q.2.2) (n := q.2.2) hts (fun w hw => (List.mem_filter.mp ((am_clok k q.1 q.2.1 q.2.2 hq).1 w hw)).1) (hts _ (lx_inst k q hq))
      exact ⟨(cC, iS), fun q' h => by cases h; exact hu⟩
  obtain ⟨f, hf⟩ := Classical.axiomOfChoice h
  obtain ⟨cI, kI, pI, i1, i2, i3⟩ := Cond.arrayClass_spec (hts _ (List.mem_filter.mp nw_oI).1)
  obtain ⟨cL, kL, pL, l1, l2, l3⟩ := Cond.arrayClass_spec (hts _ (List.mem_filter.mp nw_oL).1)
  have ho : (Cond.arrayOver (.object "WhichClub$Shelf")).before #[Value.ref b] s = true := hts _ (List.mem_of_getElem? (i := 343) (by decide +kernel))
  obtain ⟨pO, cO, kO, o1, o2, o3, o4, o5⟩ := Cond.arrayOver_spec ho
  refine ⟨(fun k => (f k).1, fun k => (f k).2), (cI, cL, cO), hf, fun k q hq => ?_⟩
  match k, hq with
  | 0, hq => cases hq; exact ⟨fun n z => ⟨fun k h => (by cases h), kI, i2, pI, i3⟩, i1⟩
  | 1, hq => cases hq; exact ⟨fun n z => ⟨fun k h => (by cases h), kL, l2, pL, l3⟩, l1⟩
  | 2, hq => cases hq; exact ⟨fun n z => ⟨fun k h => (by cases h), kO, o3, pO, o4⟩, kO, pO, o3, o4, o1, o5⟩
  | k + 3, hq => simp [am_tys] at hq
theorem lx_X {s : State} {b : Nat} (hts : ∀ w ∈ lw_tbl, w.before #[Value.ref b] s = true) : nw_X s := by
  refine ⟨va_Nw.of rfl (hts (.methodLinkNest "WhichClub" 20 ⟨"WhichClub$Law", "<init>", "()V"⟩ "WhichClub") (List.mem_of_getElem? (i := 156) (by decide +kernel))), va_Nw.of rfl (hts (.methodLinkNest "WhichClub" 61 ⟨"WhichClub$Changes", "<init>", "()V"⟩ "WhichClub") (List.mem_of_getElem? (i := 300) (by decide +kernel))), va_Nw.of rfl (hts (.methodLinkNest "WhichClub" 68 ⟨"WhichClub$Words", "<init>", "()V"⟩ "WhichClub") (List.mem_of_getElem? (i := 325) (by decide +kernel))), va_Nw.of rfl (hts (.methodLinkNest "WhichClub" 79 ⟨"WhichClub$Shelf", "<init>", "()V"⟩ "WhichClub") (List.mem_of_getElem? (i := 345) (by decide +kernel))), ?_⟩
  have ho : (Cond.arrayOver (.object "WhichClub$Shelf")).before #[Value.ref b] s = true := hts _ (List.mem_of_getElem? (i := 343) (by decide +kernel))
  exact va_AO.of ho
theorem lx_Xb (u U : State) (h : u.vm = U.vm) (hX : nw_X u) : nw_X U :=
  ⟨hX.1.same rfl h, hX.2.1.same rfl h, hX.2.2.1.same rfl h, hX.2.2.2.1.same rfl h, hX.2.2.2.2.moved (by rw [h]; exact Vm.Alike.refl U.vm)⟩
theorem lx_Xw {s : State} (hX : nw_X s) (U : State) (hW : s.WarmedH U.vm) : nw_X U :=
  ⟨hX.1.warmM hW, hX.2.1.warmM hW, hX.2.2.1.warmM hW, hX.2.2.2.1.warmM hW, hX.2.2.2.2.moved hW.alike⟩
