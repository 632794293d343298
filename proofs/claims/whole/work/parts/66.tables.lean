/-! the static tables at the start (by gen66.py) -/
theorem lx_t0 {s : State} {b : Nat} {A : Nat → Prop} (hgv : (Jvm.Cond.and given_1 narrow_1).before #[Value.ref b] s = true) (hts : ∀ w ∈ lw_tbl, w.before #[Value.ref b] s = true) (hA : ∀ a : Nat, a < s.heap.size → ¬ A a) : ∃ t : Nat, va_Z "WhichClub$Hole" "LEAST" "[I" (.ref t) A s s.heap ∧ va_T .int t 9 (fun j => ([.int 0, .int 0, .int 0, .int 0, .int 1, .int (-3), .int 0, .int 0, .int 0] : List Value).getD j .null) A s s.heap := by
  have hs := flat_of_before _ hgv
  obtain ⟨t, h1, h2⟩ := va_Tof (args := #[Value.ref b]) (s := s) (tm := (.static "WhichClub$Hole" "LEAST" "[I")) (ty := .int) (N := 9) (f := fun j => ([.int 0, .int 0, .int 0, .int 0, .int 1, .int (-3), .int 0, .int 0, .int 0] : List Value).getD j .null) (A := A) (by decide) (hs (.arrayOf (.static "WhichClub$Hole" "LEAST" "[I") .int) (by decide +kernel)) (va_eqt (z := 9) (hs (.eq (.length (.static "WhichClub$Hole" "LEAST" "[I")) (.int 9)) (by decide +kernel))) (fun j hj => by
    match j, hj with
    | 0, _ => exact va_eqt (z := 0) (hs (.eq (.elem (.static "WhichClub$Hole" "LEAST" "[I") (.int 0)) (.int 0)) (by decide +kernel))
    | 1, _ => exact va_eqt (z := 0) (hs (.eq (.elem (.static "WhichClub$Hole" "LEAST" "[I") (.int 1)) (.int 0)) (by decide +kernel))
    | 2, _ => exact va_eqt (z := 0) (hs (.eq (.elem (.static "WhichClub$Hole" "LEAST" "[I") (.int 2)) (.int 0)) (by decide +kernel))
    | 3, _ => exact va_eqt (z := 0) (hs (.eq (.elem (.static "WhichClub$Hole" "LEAST" "[I") (.int 3)) (.int 0)) (by decide +kernel))
    | 4, _ => exact va_eqt (z := 1) (hs (.eq (.elem (.static "WhichClub$Hole" "LEAST" "[I") (.int 4)) (.int 1)) (by decide +kernel))
    | 5, _ => exact va_eqt (z := (-3)) (hs (.eq (.elem (.static "WhichClub$Hole" "LEAST" "[I") (.int 5)) (.int (-3))) (by decide +kernel))
    | 6, _ => exact va_eqt (z := 0) (hs (.eq (.elem (.static "WhichClub$Hole" "LEAST" "[I") (.int 6)) (.int 0)) (by decide +kernel))
    | 7, _ => exact va_eqt (z := 0) (hs (.eq (.elem (.static "WhichClub$Hole" "LEAST" "[I") (.int 7)) (.int 0)) (by decide +kernel))
    | 8, _ => exact va_eqt (z := 0) (hs (.eq (.elem (.static "WhichClub$Hole" "LEAST" "[I") (.int 8)) (.int 0)) (by decide +kernel))
    | j + 9, hj => exact absurd hj (by omega)) hA
  exact ⟨t, va_Zref (hts _ (List.mem_of_getElem? (i := 403) (show lw_tbl[403]? = some (Cond.laysStatic "WhichClub$Hole" "LEAST" "[I") by decide +kernel))) (hts _ (List.mem_of_getElem? (i := 84) (show lw_tbl[84]? = some (Cond.initialized "WhichClub$Hole") by decide +kernel))) h1 hA, h2⟩
theorem lx_t1 {s : State} {b : Nat} {A : Nat → Prop} (hgv : (Jvm.Cond.and given_1 narrow_1).before #[Value.ref b] s = true) (hts : ∀ w ∈ lw_tbl, w.before #[Value.ref b] s = true) (hA : ∀ a : Nat, a < s.heap.size → ¬ A a) : ∃ t : Nat, va_Z "WhichClub$Hole" "MOST" "[I" (.ref t) A s s.heap ∧ va_T .int t 9 (fun j => ([.int 4, .int 30, .int 3, .int 9, .int 29, .int 3, .int 12, .int 12, .int 12] : List Value).getD j .null) A s s.heap := by
  have hs := flat_of_before _ hgv
  obtain ⟨t, h1, h2⟩ := va_Tof (args := #[Value.ref b]) (s := s) (tm := (.static "WhichClub$Hole" "MOST" "[I")) (ty := .int) (N := 9) (f := fun j => ([.int 4, .int 30, .int 3, .int 9, .int 29, .int 3, .int 12, .int 12, .int 12] : List Value).getD j .null) (A := A) (by decide) (hs (.arrayOf (.static "WhichClub$Hole" "MOST" "[I") .int) (by decide +kernel)) (va_eqt (z := 9) (hs (.eq (.length (.static "WhichClub$Hole" "MOST" "[I")) (.int 9)) (by decide +kernel))) (fun j hj => by
    match j, hj with
    | 0, _ => exact va_eqt (z := 4) (hs (.eq (.elem (.static "WhichClub$Hole" "MOST" "[I") (.int 0)) (.int 4)) (by decide +kernel))
    | 1, _ => exact va_eqt (z := 30) (hs (.eq (.elem (.static "WhichClub$Hole" "MOST" "[I") (.int 1)) (.int 30)) (by decide +kernel))
    | 2, _ => exact va_eqt (z := 3) (hs (.eq (.elem (.static "WhichClub$Hole" "MOST" "[I") (.int 2)) (.int 3)) (by decide +kernel))
    | 3, _ => exact va_eqt (z := 9) (hs (.eq (.elem (.static "WhichClub$Hole" "MOST" "[I") (.int 3)) (.int 9)) (by decide +kernel))
    | 4, _ => exact va_eqt (z := 29) (hs (.eq (.elem (.static "WhichClub$Hole" "MOST" "[I") (.int 4)) (.int 29)) (by decide +kernel))
    | 5, _ => exact va_eqt (z := 3) (hs (.eq (.elem (.static "WhichClub$Hole" "MOST" "[I") (.int 5)) (.int 3)) (by decide +kernel))
    | 6, _ => exact va_eqt (z := 12) (hs (.eq (.elem (.static "WhichClub$Hole" "MOST" "[I") (.int 6)) (.int 12)) (by decide +kernel))
    | 7, _ => exact va_eqt (z := 12) (hs (.eq (.elem (.static "WhichClub$Hole" "MOST" "[I") (.int 7)) (.int 12)) (by decide +kernel))
    | 8, _ => exact va_eqt (z := 12) (hs (.eq (.elem (.static "WhichClub$Hole" "MOST" "[I") (.int 8)) (.int 12)) (by decide +kernel))
    | j + 9, hj => exact absurd hj (by omega)) hA
  exact ⟨t, va_Zref (hts _ (List.mem_of_getElem? (i := 401) (show lw_tbl[401]? = some (Cond.laysStatic "WhichClub$Hole" "MOST" "[I") by decide +kernel))) (hts _ (List.mem_of_getElem? (i := 84) (show lw_tbl[84]? = some (Cond.initialized "WhichClub$Hole") by decide +kernel))) h1 hA, h2⟩
theorem lx_t2 {s : State} {b : Nat} {A : Nat → Prop} (hgv : (Jvm.Cond.and given_1 narrow_1).before #[Value.ref b] s = true) (hts : ∀ w ∈ lw_tbl, w.before #[Value.ref b] s = true) (hA : ∀ a : Nat, a < s.heap.size → ¬ A a) : ∃ t : Nat, va_Z "WhichClub$Reckoning" "UNITS" "[J" (.ref t) A s s.heap ∧ va_T .long t 5 (fun j => ([.long 12, .long 1260, .long 132300, .long 13891500, .long 1458607500] : List Value).getD j .null) A s s.heap := by
  have hs := flat_of_before _ hgv
  obtain ⟨t, h1, h2⟩ := va_Tof (args := #[Value.ref b]) (s := s) (tm := (.static "WhichClub$Reckoning" "UNITS" "[J")) (ty := .long) (N := 5) (f := fun j => ([.long 12, .long 1260, .long 132300, .long 13891500, .long 1458607500] : List Value).getD j .null) (A := A) (by decide) (hs (.arrayOf (.static "WhichClub$Reckoning" "UNITS" "[J") .long) (by decide +kernel)) (va_eqt (z := 5) (hs (.eq (.length (.static "WhichClub$Reckoning" "UNITS" "[J")) (.int 5)) (by decide +kernel))) (fun j hj => by
    match j, hj with
    | 0, _ => exact va_eqtl (z := 12) (hs (.eq (.elem (.static "WhichClub$Reckoning" "UNITS" "[J") (.int 0)) (.long 12)) (by decide +kernel))
    | 1, _ => exact va_eqtl (z := 1260) (hs (.eq (.elem (.static "WhichClub$Reckoning" "UNITS" "[J") (.int 1)) (.long 1260)) (by decide +kernel))
    | 2, _ => exact va_eqtl (z := 132300) (hs (.eq (.elem (.static "WhichClub$Reckoning" "UNITS" "[J") (.int 2)) (.long 132300)) (by decide +kernel))
    | 3, _ => exact va_eqtl (z := 13891500) (hs (.eq (.elem (.static "WhichClub$Reckoning" "UNITS" "[J") (.int 3)) (.long 13891500)) (by decide +kernel))
    | 4, _ => exact va_eqtl (z := 1458607500) (hs (.eq (.elem (.static "WhichClub$Reckoning" "UNITS" "[J") (.int 4)) (.long 1458607500)) (by decide +kernel))
    | j + 5, hj => exact absurd hj (by omega)) hA
  exact ⟨t, va_Zref (hts _ (List.mem_of_getElem? (i := 823) (show lw_tbl[823]? = some (Cond.laysStatic "WhichClub$Reckoning" "UNITS" "[J") by decide +kernel))) (hts _ (List.mem_of_getElem? (i := 87) (show lw_tbl[87]? = some (Cond.initialized "WhichClub$Reckoning") by decide +kernel))) h1 hA, h2⟩
theorem lx_t3 {s : State} {b : Nat} {A : Nat → Prop} (hgv : (Jvm.Cond.and given_1 narrow_1).before #[Value.ref b] s = true) (hts : ∀ w ∈ lw_tbl, w.before #[Value.ref b] s = true) (hA : ∀ a : Nat, a < s.heap.size → ¬ A a) : ∃ t : Nat, va_Z "WhichClub$Reckoning" "SHARES" "[I" (.ref t) A s s.heap ∧ va_T .int t 4 (fun j => ([.int 105, .int 35, .int 21, .int 15] : List Value).getD j .null) A s s.heap := by
  have hs := flat_of_before _ hgv
  obtain ⟨t, h1, h2⟩ := va_Tof (args := #[Value.ref b]) (s := s) (tm := (.static "WhichClub$Reckoning" "SHARES" "[I")) (ty := .int) (N := 4) (f := fun j => ([.int 105, .int 35, .int 21, .int 15] : List Value).getD j .null) (A := A) (by decide) (hs (.arrayOf (.static "WhichClub$Reckoning" "SHARES" "[I") .int) (by decide +kernel)) (va_eqt (z := 4) (hs (.eq (.length (.static "WhichClub$Reckoning" "SHARES" "[I")) (.int 4)) (by decide +kernel))) (fun j hj => by
    match j, hj with
    | 0, _ => exact va_eqt (z := 105) (hs (.eq (.elem (.static "WhichClub$Reckoning" "SHARES" "[I") (.int 0)) (.int 105)) (by decide +kernel))
    | 1, _ => exact va_eqt (z := 35) (hs (.eq (.elem (.static "WhichClub$Reckoning" "SHARES" "[I") (.int 1)) (.int 35)) (by decide +kernel))
    | 2, _ => exact va_eqt (z := 21) (hs (.eq (.elem (.static "WhichClub$Reckoning" "SHARES" "[I") (.int 2)) (.int 21)) (by decide +kernel))
    | 3, _ => exact va_eqt (z := 15) (hs (.eq (.elem (.static "WhichClub$Reckoning" "SHARES" "[I") (.int 3)) (.int 15)) (by decide +kernel))
    | j + 4, hj => exact absurd hj (by omega)) hA
  exact ⟨t, va_Zref (hts _ (List.mem_of_getElem? (i := 843) (show lw_tbl[843]? = some (Cond.laysStatic "WhichClub$Reckoning" "SHARES" "[I") by decide +kernel))) (hts _ (List.mem_of_getElem? (i := 87) (show lw_tbl[87]? = some (Cond.initialized "WhichClub$Reckoning") by decide +kernel))) h1 hA, h2⟩
theorem lx_t4 {s : State} {b : Nat} {A : Nat → Prop} (hgv : (Jvm.Cond.and given_1 narrow_1).before #[Value.ref b] s = true) (hts : ∀ w ∈ lw_tbl, w.before #[Value.ref b] s = true) (hA : ∀ a : Nat, a < s.heap.size → ¬ A a) : ∃ t : Nat, va_Z "WhichClub$Words" "ABOVE" "[I" (.ref t) A s s.heap ∧ va_T .int t 8 (fun j => ([.int (-1), .int 0, .int 0, .int 2, .int 1, .int 3, .int 0, .int 4] : List Value).getD j .null) A s s.heap := by
  have hs := flat_of_before _ hgv
  obtain ⟨t, h1, h2⟩ := va_Tof (args := #[Value.ref b]) (s := s) (tm := (.static "WhichClub$Words" "ABOVE" "[I")) (ty := .int) (N := 8) (f := fun j => ([.int (-1), .int 0, .int 0, .int 2, .int 1, .int 3, .int 0, .int 4] : List Value).getD j .null) (A := A) (by decide) (hs (.arrayOf (.static "WhichClub$Words" "ABOVE" "[I") .int) (by decide +kernel)) (va_eqt (z := 8) (hs (.eq (.length (.static "WhichClub$Words" "ABOVE" "[I")) (.int 8)) (by decide +kernel))) (fun j hj => by
    match j, hj with
    | 0, _ => exact va_eqt (z := (-1)) (hs (.eq (.elem (.static "WhichClub$Words" "ABOVE" "[I") (.int 0)) (.int (-1))) (by decide +kernel))
    | 1, _ => exact va_eqt (z := 0) (hs (.eq (.elem (.static "WhichClub$Words" "ABOVE" "[I") (.int 1)) (.int 0)) (by decide +kernel))
    | 2, _ => exact va_eqt (z := 0) (hs (.eq (.elem (.static "WhichClub$Words" "ABOVE" "[I") (.int 2)) (.int 0)) (by decide +kernel))
    | 3, _ => exact va_eqt (z := 2) (hs (.eq (.elem (.static "WhichClub$Words" "ABOVE" "[I") (.int 3)) (.int 2)) (by decide +kernel))
    | 4, _ => exact va_eqt (z := 1) (hs (.eq (.elem (.static "WhichClub$Words" "ABOVE" "[I") (.int 4)) (.int 1)) (by decide +kernel))
    | 5, _ => exact va_eqt (z := 3) (hs (.eq (.elem (.static "WhichClub$Words" "ABOVE" "[I") (.int 5)) (.int 3)) (by decide +kernel))
    | 6, _ => exact va_eqt (z := 0) (hs (.eq (.elem (.static "WhichClub$Words" "ABOVE" "[I") (.int 6)) (.int 0)) (by decide +kernel))
    | 7, _ => exact va_eqt (z := 4) (hs (.eq (.elem (.static "WhichClub$Words" "ABOVE" "[I") (.int 7)) (.int 4)) (by decide +kernel))
    | j + 8, hj => exact absurd hj (by omega)) hA
  exact ⟨t, va_Zref (hts _ (List.mem_of_getElem? (i := 1151) (show lw_tbl[1151]? = some (Cond.laysStatic "WhichClub$Words" "ABOVE" "[I") by decide +kernel))) (hts _ (List.mem_of_getElem? (i := 92) (show lw_tbl[92]? = some (Cond.initialized "WhichClub$Words") by decide +kernel))) h1 hA, h2⟩
theorem lx_t5 {s : State} {b : Nat} {A : Nat → Prop} (hgv : (Jvm.Cond.and given_1 narrow_1).before #[Value.ref b] s = true) (hts : ∀ w ∈ lw_tbl, w.before #[Value.ref b] s = true) (hA : ∀ a : Nat, a < s.heap.size → ¬ A a) : ∃ t : Nat, va_Z "WhichClub$Words" "OWN" "[I" (.ref t) A s s.heap ∧ va_T .int t 32 (fun j => ([.int 1, .int 10, .int 11, .int 2, .int 20, .int 0, .int 0, .int 0, .int 0, .int 30, .int 0, .int 0, .int 0, .int 41, .int 40, .int 0, .int 0, .int 0, .int 50, .int 0, .int 0, .int 0, .int 0, .int 60, .int 70, .int 0, .int 0, .int 0, .int 0, .int 80, .int 0, .int 81] : List Value).getD j .null) A s s.heap := by
  have hs := flat_of_before _ hgv
  obtain ⟨t, h1, h2⟩ := va_Tof (args := #[Value.ref b]) (s := s) (tm := (.static "WhichClub$Words" "OWN" "[I")) (ty := .int) (N := 32) (f := fun j => ([.int 1, .int 10, .int 11, .int 2, .int 20, .int 0, .int 0, .int 0, .int 0, .int 30, .int 0, .int 0, .int 0, .int 41, .int 40, .int 0, .int 0, .int 0, .int 50, .int 0, .int 0, .int 0, .int 0, .int 60, .int 70, .int 0, .int 0, .int 0, .int 0, .int 80, .int 0, .int 81] : List Value).getD j .null) (A := A) (by decide) (hs (.arrayOf (.static "WhichClub$Words" "OWN" "[I") .int) (by decide +kernel)) (va_eqt (z := 32) (hs (.eq (.length (.static "WhichClub$Words" "OWN" "[I")) (.int 32)) (by decide +kernel))) (fun j hj => by
    match j, hj with
    | 0, _ => exact va_eqt (z := 1) (hs (.eq (.elem (.static "WhichClub$Words" "OWN" "[I") (.int 0)) (.int 1)) (by decide +kernel))
    | 1, _ => exact va_eqt (z := 10) (hs (.eq (.elem (.static "WhichClub$Words" "OWN" "[I") (.int 1)) (.int 10)) (by decide +kernel))
    | 2, _ => exact va_eqt (z := 11) (hs (.eq (.elem (.static "WhichClub$Words" "OWN" "[I") (.int 2)) (.int 11)) (by decide +kernel))
    | 3, _ => exact va_eqt (z := 2) (hs (.eq (.elem (.static "WhichClub$Words" "OWN" "[I") (.int 3)) (.int 2)) (by decide +kernel))
    | 4, _ => exact va_eqt (z := 20) (hs (.eq (.elem (.static "WhichClub$Words" "OWN" "[I") (.int 4)) (.int 20)) (by decide +kernel))
    | 5, _ => exact va_eqt (z := 0) (hs (.eq (.elem (.static "WhichClub$Words" "OWN" "[I") (.int 5)) (.int 0)) (by decide +kernel))
    | 6, _ => exact va_eqt (z := 0) (hs (.eq (.elem (.static "WhichClub$Words" "OWN" "[I") (.int 6)) (.int 0)) (by decide +kernel))
    | 7, _ => exact va_eqt (z := 0) (hs (.eq (.elem (.static "WhichClub$Words" "OWN" "[I") (.int 7)) (.int 0)) (by decide +kernel))
    | 8, _ => exact va_eqt (z := 0) (hs (.eq (.elem (.static "WhichClub$Words" "OWN" "[I") (.int 8)) (.int 0)) (by decide +kernel))
    | 9, _ => exact va_eqt (z := 30) (hs (.eq (.elem (.static "WhichClub$Words" "OWN" "[I") (.int 9)) (.int 30)) (by decide +kernel))
    | 10, _ => exact va_eqt (z := 0) (hs (.eq (.elem (.static "WhichClub$Words" "OWN" "[I") (.int 10)) (.int 0)) (by decide +kernel))
    | 11, _ => exact va_eqt (z := 0) (hs (.eq (.elem (.static "WhichClub$Words" "OWN" "[I") (.int 11)) (.int 0)) (by decide +kernel))
    | 12, _ => exact va_eqt (z := 0) (hs (.eq (.elem (.static "WhichClub$Words" "OWN" "[I") (.int 12)) (.int 0)) (by decide +kernel))
    | 13, _ => exact va_eqt (z := 41) (hs (.eq (.elem (.static "WhichClub$Words" "OWN" "[I") (.int 13)) (.int 41)) (by decide +kernel))
    | 14, _ => exact va_eqt (z := 40) (hs (.eq (.elem (.static "WhichClub$Words" "OWN" "[I") (.int 14)) (.int 40)) (by decide +kernel))
    | 15, _ => exact va_eqt (z := 0) (hs (.eq (.elem (.static "WhichClub$Words" "OWN" "[I") (.int 15)) (.int 0)) (by decide +kernel))
    | 16, _ => exact va_eqt (z := 0) (hs (.eq (.elem (.static "WhichClub$Words" "OWN" "[I") (.int 16)) (.int 0)) (by decide +kernel))
    | 17, _ => exact va_eqt (z := 0) (hs (.eq (.elem (.static "WhichClub$Words" "OWN" "[I") (.int 17)) (.int 0)) (by decide +kernel))
    | 18, _ => exact va_eqt (z := 50) (hs (.eq (.elem (.static "WhichClub$Words" "OWN" "[I") (.int 18)) (.int 50)) (by decide +kernel))
    | 19, _ => exact va_eqt (z := 0) (hs (.eq (.elem (.static "WhichClub$Words" "OWN" "[I") (.int 19)) (.int 0)) (by decide +kernel))
    | 20, _ => exact va_eqt (z := 0) (hs (.eq (.elem (.static "WhichClub$Words" "OWN" "[I") (.int 20)) (.int 0)) (by decide +kernel))
    | 21, _ => exact va_eqt (z := 0) (hs (.eq (.elem (.static "WhichClub$Words" "OWN" "[I") (.int 21)) (.int 0)) (by decide +kernel))
    | 22, _ => exact va_eqt (z := 0) (hs (.eq (.elem (.static "WhichClub$Words" "OWN" "[I") (.int 22)) (.int 0)) (by decide +kernel))
    | 23, _ => exact va_eqt (z := 60) (hs (.eq (.elem (.static "WhichClub$Words" "OWN" "[I") (.int 23)) (.int 60)) (by decide +kernel))
    | 24, _ => exact va_eqt (z := 70) (hs (.eq (.elem (.static "WhichClub$Words" "OWN" "[I") (.int 24)) (.int 70)) (by decide +kernel))
    | 25, _ => exact va_eqt (z := 0) (hs (.eq (.elem (.static "WhichClub$Words" "OWN" "[I") (.int 25)) (.int 0)) (by decide +kernel))
    | 26, _ => exact va_eqt (z := 0) (hs (.eq (.elem (.static "WhichClub$Words" "OWN" "[I") (.int 26)) (.int 0)) (by decide +kernel))
    | 27, _ => exact va_eqt (z := 0) (hs (.eq (.elem (.static "WhichClub$Words" "OWN" "[I") (.int 27)) (.int 0)) (by decide +kernel))
    | 28, _ => exact va_eqt (z := 0) (hs (.eq (.elem (.static "WhichClub$Words" "OWN" "[I") (.int 28)) (.int 0)) (by decide +kernel))
    | 29, _ => exact va_eqt (z := 80) (hs (.eq (.elem (.static "WhichClub$Words" "OWN" "[I") (.int 29)) (.int 80)) (by decide +kernel))
    | 30, _ => exact va_eqt (z := 0) (hs (.eq (.elem (.static "WhichClub$Words" "OWN" "[I") (.int 30)) (.int 0)) (by decide +kernel))
    | 31, _ => exact va_eqt (z := 81) (hs (.eq (.elem (.static "WhichClub$Words" "OWN" "[I") (.int 31)) (.int 81)) (by decide +kernel))
    | j + 32, hj => exact absurd hj (by omega)) hA
  exact ⟨t, va_Zref (hts _ (List.mem_of_getElem? (i := 1185) (show lw_tbl[1185]? = some (Cond.laysStatic "WhichClub$Words" "OWN" "[I") by decide +kernel))) (hts _ (List.mem_of_getElem? (i := 92) (show lw_tbl[92]? = some (Cond.initialized "WhichClub$Words") by decide +kernel))) h1 hA, h2⟩
