/-! all that the two objects read beside themselves, at the start -/
set_option maxRecDepth 20000 in
theorem lx_Z {s : State} {b : Nat} (hgv : (Jvm.Cond.and given_1 narrow_1).before #[Value.ref b] s = true) (hts : ∀ w ∈ lw_tbl, w.before #[Value.ref b] s = true) : ∃ tb : Nat → Nat, ∀ ad : Nat → Nat, (∀ k, 100 ≤ k → k ≤ 107 → ad k = tb k) → am_Z ad (fun q => s.heap.size ≤ q) s s.heap := by
  have hA : ∀ a : Nat, a < s.heap.size → ¬ (fun q => s.heap.size ≤ q) a := fun a h => Nat.not_le.mpr h
  have hs := flat_of_before _ hgv
  obtain ⟨t0, a0, b0⟩ := lx_t0 hgv hts hA
  obtain ⟨t1, a1, b1⟩ := lx_t1 hgv hts hA
  obtain ⟨t2, a2, b2⟩ := lx_t2 hgv hts hA
  obtain ⟨t3, a3, b3⟩ := lx_t3 hgv hts hA
  obtain ⟨t4, a4, b4⟩ := lx_t4 hgv hts hA
  obtain ⟨t5, a5, b5⟩ := lx_t5 hgv hts hA
  obtain ⟨adK, adV, hS, hk⟩ := vk_Sof (args := #[Value.ref b]) (s := s) (N := 1) (tm := fun _ => .string "WhichClub$Law" 79) (len := [6]) (byt := [[100, 103, 99, 115, 119, 107]]) (A := fun q => s.heap.size ≤ q)
    (fun i hi => by obtain rfl : i = 0 := by omega
                    decide)
    (fun i _ => hs (.exactly (.string "WhichClub$Law" 79) "java/lang/String") (by decide +kernel))
    (fun i _ => hs (.eq (.field (.string "WhichClub$Law" 79) "java/lang/String" "coder" "B") (.int 0)) (by decide +kernel))
    (fun i _ => hs (.arrayOf (.field (.string "WhichClub$Law" 79) "java/lang/String" "value" "[B") .byte) (by decide +kernel))
    (fun i hi => by obtain rfl : i = 0 := by omega
                    exact hs (.eq (.length (.field (.string "WhichClub$Law" 79) "java/lang/String" "value" "[B")) (.int 6)) (by decide +kernel))
    (fun i hi j hj => by
      obtain rfl : i = 0 := by omega
      match j, hj with
      | 0, _ => exact hs (.eq (.elem (.field (.string "WhichClub$Law" 79) "java/lang/String" "value" "[B") (.int 0)) (.int 100)) (by decide +kernel)
      | 1, _ => exact hs (.eq (.elem (.field (.string "WhichClub$Law" 79) "java/lang/String" "value" "[B") (.int 1)) (.int 103)) (by decide +kernel)
      | 2, _ => exact hs (.eq (.elem (.field (.string "WhichClub$Law" 79) "java/lang/String" "value" "[B") (.int 2)) (.int 99)) (by decide +kernel)
      | 3, _ => exact hs (.eq (.elem (.field (.string "WhichClub$Law" 79) "java/lang/String" "value" "[B") (.int 3)) (.int 115)) (by decide +kernel)
      | 4, _ => exact hs (.eq (.elem (.field (.string "WhichClub$Law" 79) "java/lang/String" "value" "[B") (.int 4)) (.int 119)) (by decide +kernel)
      | 5, _ => exact hs (.eq (.elem (.field (.string "WhichClub$Law" 79) "java/lang/String" "value" "[B") (.int 5)) (.int 107)) (by decide +kernel)
      | j + 6, hj => exact absurd (show j + 6 < 6 from hj) (by omega))
    (fun i j hi hj hij => absurd (show i = j by omega) hij) hA
  refine ⟨fun k => match k with | 100 => t0 | 101 => t1 | 102 => t2 | 103 => t3 | 104 => t4 | 105 => t5 | 106 => adK 0 | _ => adV 0, fun ad had => ?_⟩
  have q0 : ad 100 = t0 := had 100 (by omega) (by omega)
  have q1 : ad 101 = t1 := had 101 (by omega) (by omega)
  have q2 : ad 102 = t2 := had 102 (by omega) (by omega)
  have q3 : ad 103 = t3 := had 103 (by omega) (by omega)
  have q4 : ad 104 = t4 := had 104 (by omega) (by omega)
  have q5 : ad 105 = t5 := had 105 (by omega) (by omega)
  have q6 : ad 106 = adK 0 := had 106 (by omega) (by omega)
  have q7 : ad 107 = adV 0 := had 107 (by omega) (by omega)
  refine ⟨?_, ?_, ?_, va_Zof (hts _ (List.mem_of_getElem? (i := 578) (show lw_tbl[578]? = some (Cond.laysStatic "java/lang/String" "COMPACT_STRINGS" "Z") by decide +kernel))) (hts (.initialized "java/lang/String") (by decide +kernel)) (va_eqi (hs (.eq (.static "java/lang/String" "COMPACT_STRINGS" "Z") (.int 1)) (by decide +kernel))) hA⟩
  · subst q0 q1 q2 q3 q4 q5
    intro q hq
    simp only [am_tb, List.mem_cons, List.not_mem_nil, or_false] at hq
    rcases hq with rfl | rfl | rfl | rfl | rfl | rfl
    · exact ⟨a0, b0⟩
    · exact ⟨a1, b1⟩
    · exact ⟨a2, b2⟩
    · exact ⟨a3, b3⟩
    · exact ⟨a4, b4⟩
    · exact ⟨a5, b5⟩
  · rw [q6, q7]
    refine ⟨fun i hi => ?_, fun i j hi hj _ => by omega⟩
    obtain rfl : i = 0 := by omega
    exact hS.1 0 (by omega)
  · rw [q6]
    have h79 : (Cond.stringRef "WhichClub$Law" 79 "dgcswk").before #[Value.ref b] s = true := hts _ (List.mem_of_getElem? (i := 564) (by decide +kernel))
    exact vk_R.of h79 (hk 0 (by omega))
