/-! the cases of the law (by gen72.py) -/
section Lc
variable {p : Program} {l : Launch} {e : Env} {s : State} {m0 : MethodId} {below : List Frame} {meth : Method} {c : Code} {H : Heap} {locs : List Loc} {cells slots : Nat} {ls : Array Slot} {Q : State → Prop} {D : va_G} {g : am_G} {adx adm : Nat → Nat} {x m : am_H} {b L : Nat} {xs : Nat → Int32} {i3 : Int32}
theorem lx_c_believed_w : Cond.methodLink R_law 50 y_Club_believed ∈ lw_tbl ∧ Cond.instanceMethod y_Club_believed ∈ lw_tbl ∧ Cond.selects y_Club_believed.cls y_Club_believed y_Club_believed ∈ lw_tbl ∧ Cond.initialized y_Club_believed.cls ∈ lw_tbl := ⟨List.mem_of_getElem? (i := 730) (by decide +kernel), List.mem_of_getElem? (i := 731) (by decide +kernel), List.mem_of_getElem? (i := 732) (by decide +kernel), List.mem_of_getElem? (i := 83) (by decide +kernel)⟩
theorem lx_c_believed_c : Cond.code y_Club_believed prog_1_method_11_code 2 (some .int) ∈ am_T := am_in 733 (by decide +kernel) (by decide +kernel)
theorem lx_c_believed_y : y_Club_believed.cls ≠ "java/lang/invoke/MethodHandle" ∧ y_Club_believed.cls ≠ "java/lang/invoke/VarHandle" ∧ (parseMethodDescriptor y_Club_believed.desc).map (fun d => d.parameters.length) = some 1 := ⟨by decide +kernel, by decide +kernel, by decide +kernel⟩
theorem lx_m_believed_w : Cond.methodLink R_law 53 y_Model_believed ∈ lw_tbl ∧ Cond.instanceMethod y_Model_believed ∈ lw_tbl ∧ Cond.selects y_Model_believed.cls y_Model_believed y_Model_believed ∈ lw_tbl ∧ Cond.initialized y_Model_believed.cls ∈ lw_tbl := ⟨List.mem_of_getElem? (i := 1546) (by decide +kernel), List.mem_of_getElem? (i := 1547) (by decide +kernel), List.mem_of_getElem? (i := 1548) (by decide +kernel), List.mem_of_getElem? (i := 94) (by decide +kernel)⟩
theorem lx_m_believed_c : Cond.code y_Model_believed prog_12_method_34_code 2 (some .int) ∈ am_T := am_in 1549 (by decide +kernel) (by decide +kernel)
theorem lx_m_believed_y : y_Model_believed.cls ≠ "java/lang/invoke/MethodHandle" ∧ y_Model_believed.cls ≠ "java/lang/invoke/VarHandle" ∧ (parseMethodDescriptor y_Model_believed.desc).map (fun d => d.parameters.length) = some 1 := ⟨by decide +kernel, by decide +kernel, by decide +kernel⟩
theorem lx_s8 (C0 : lw_At p s m0 meth c b L xs) (F : lx_F s D g adx adm) (hR : Rel x m) (w : lx_W s D g adx adm H locs x m) (hv : lx_in i3 L) (hcs : cells ≤ room_1.cells ∧ slots ≤ room_1.slots) (hl : lv_has ls 4 [(3, .int i3), (2, .ref (adm 0)), (1, .ref (adx 0)), (0, .ref b)]) (kk : lx_K1 p l e s m0 b below meth c D g adx adm cells slots ls Q) : W p l e room_1 s m0 #[.ref b] below meth c H locs cells slots Q (F0 m0 462 ls []) := by
  obtain ⟨hx, hb, hr, hml, hown, hts, hX, hbl, hlocks, hgv⟩ := C0
  have hbA : ¬ (fun q : Nat => s.heap.size ≤ q) b := Nat.not_le.mpr hbl
  obtain ⟨r, xx, mm, hR2, c1, c2⟩ := P_believed hR (xs (i3 + 1).toNatClampNeg)
  refine lv_aload_n hx hb lx_d_462 rfl (lv_at hl 2 rfl) ?_
  refine lv_aload_n hx hb lx_d_463 rfl (lv_at hl 3 rfl) ?_
  refine lv_iload_n hx hb lx_d_464 rfl (lv_at hl 0 rfl) ?_
  refine lv_iconst (v := 1) hx hb lx_d_465 (by decide) ?_
  refine lv_iadd hx hb lx_d_466 ?_
  refine va_sld hx hb hX hbl hbA w.2.2 hv.1 lx_d_467 ?_
  refine lx_cX (rest := []) hx hb hml hown hts F w c1 rfl lx_c_believed_w.1 lx_c_believed_w.2.1 lx_c_believed_w.2.2.1 lx_c_believed_w.2.2.2 lx_c_believed_c lx_c_believed_y ⟨(Nat.le_of_ble_eq_true rfl), (Nat.le_of_ble_eq_true rfl)⟩ hcs hl.1 rfl (Nat.le_of_ble_eq_true rfl) rfl lx_d_468 (fun H locs w => ?_)
  refine lv_aload_n hx hb lx_d_471 rfl (lv_at hl 1 rfl) ?_
  refine lv_aload_n hx hb lx_d_472 rfl (lv_at hl 3 rfl) ?_
  refine lv_iload_n hx hb lx_d_473 rfl (lv_at hl 0 rfl) ?_
  refine lv_iconst (v := 1) hx hb lx_d_474 (by decide) ?_
  refine lv_iadd hx hb lx_d_475 ?_
  refine va_sld hx hb hX hbl hbA w.2.2 hv.1 lx_d_476 ?_
  refine lx_cM (rest := [.int r]) hx hb hml hown hts F w c2 rfl lx_m_believed_w.1 lx_m_believed_w.2.1 lx_m_believed_w.2.2.1 lx_m_believed_w.2.2.2 lx_m_believed_c lx_m_believed_y ⟨(Nat.le_of_ble_eq_true rfl), (Nat.le_of_ble_eq_true rfl)⟩ hcs hl.1 rfl (Nat.le_of_ble_eq_true rfl) rfl lx_d_477 (fun H locs w => ?_)
  exact lv_icmp_eq (tgt := 1366) hx hb lx_d_480 (by decide) (fun _ => kk _ _ _ _ hR2 w) (fun q => absurd rfl q)
theorem lx_c_layUp_w : Cond.methodLink R_law 54 y_Club_layUp ∈ lw_tbl ∧ Cond.instanceMethod y_Club_layUp ∈ lw_tbl ∧ Cond.selects y_Club_layUp.cls y_Club_layUp y_Club_layUp ∈ lw_tbl ∧ Cond.initialized y_Club_layUp.cls ∈ lw_tbl := ⟨List.mem_of_getElem? (i := 792) (by decide +kernel), List.mem_of_getElem? (i := 793) (by decide +kernel), List.mem_of_getElem? (i := 794) (by decide +kernel), List.mem_of_getElem? (i := 83) (by decide +kernel)⟩
theorem lx_c_layUp_c : Cond.code y_Club_layUp prog_1_method_12_code 2 (some .int) ∈ am_T := am_in 795 (by decide +kernel) (by decide +kernel)
theorem lx_c_layUp_y : y_Club_layUp.cls ≠ "java/lang/invoke/MethodHandle" ∧ y_Club_layUp.cls ≠ "java/lang/invoke/VarHandle" ∧ (parseMethodDescriptor y_Club_layUp.desc).map (fun d => d.parameters.length) = some 1 := ⟨by decide +kernel, by decide +kernel, by decide +kernel⟩
theorem lx_m_layUp_w : Cond.methodLink R_law 57 y_Model_layUp ∈ lw_tbl ∧ Cond.instanceMethod y_Model_layUp ∈ lw_tbl ∧ Cond.selects y_Model_layUp.cls y_Model_layUp y_Model_layUp ∈ lw_tbl ∧ Cond.initialized y_Model_layUp.cls ∈ lw_tbl := ⟨List.mem_of_getElem? (i := 1608) (by decide +kernel), List.mem_of_getElem? (i := 1609) (by decide +kernel), List.mem_of_getElem? (i := 1610) (by decide +kernel), List.mem_of_getElem? (i := 94) (by decide +kernel)⟩
theorem lx_m_layUp_c : Cond.code y_Model_layUp prog_12_method_45_code 6 (some .int) ∈ am_T := am_in 1611 (by decide +kernel) (by decide +kernel)
theorem lx_m_layUp_y : y_Model_layUp.cls ≠ "java/lang/invoke/MethodHandle" ∧ y_Model_layUp.cls ≠ "java/lang/invoke/VarHandle" ∧ (parseMethodDescriptor y_Model_layUp.desc).map (fun d => d.parameters.length) = some 1 := ⟨by decide +kernel, by decide +kernel, by decide +kernel⟩
theorem lx_s9 (C0 : lw_At p s m0 meth c b L xs) (F : lx_F s D g adx adm) (hR : Rel x m) (w : lx_W s D g adx adm H locs x m) (hv : lx_in i3 L) (hcs : cells ≤ room_1.cells ∧ slots ≤ room_1.slots) (hl : lv_has ls 4 [(3, .int i3), (2, .ref (adm 0)), (1, .ref (adx 0)), (0, .ref b)]) (kk : lx_K1 p l e s m0 b below meth c D g adx adm cells slots ls Q) : W p l e room_1 s m0 #[.ref b] below meth c H locs cells slots Q (F0 m0 485 ls []) := by
  obtain ⟨hx, hb, hr, hml, hown, hts, hX, hbl, hlocks, hgv⟩ := C0
  have hbA : ¬ (fun q : Nat => s.heap.size ≤ q) b := Nat.not_le.mpr hbl
  obtain ⟨r, xx, mm, hR2, c1, c2⟩ := P_layUp hR (xs (i3 + 1).toNatClampNeg)
  refine lv_aload_n hx hb lx_d_485 rfl (lv_at hl 2 rfl) ?_
  refine lv_aload_n hx hb lx_d_486 rfl (lv_at hl 3 rfl) ?_
  refine lv_iload_n hx hb lx_d_487 rfl (lv_at hl 0 rfl) ?_
  refine lv_iconst (v := 1) hx hb lx_d_488 (by decide) ?_
  refine lv_iadd hx hb lx_d_489 ?_
  refine va_sld hx hb hX hbl hbA w.2.2 hv.1 lx_d_490 ?_
  refine lx_cX (rest := []) hx hb hml hown hts F w c1 rfl lx_c_layUp_w.1 lx_c_layUp_w.2.1 lx_c_layUp_w.2.2.1 lx_c_layUp_w.2.2.2 lx_c_layUp_c lx_c_layUp_y ⟨(Nat.le_of_ble_eq_true rfl), (Nat.le_of_ble_eq_true rfl)⟩ hcs hl.1 rfl (Nat.le_of_ble_eq_true rfl) rfl lx_d_491 (fun H locs w => ?_)
  refine lv_aload_n hx hb lx_d_494 rfl (lv_at hl 1 rfl) ?_
  refine lv_aload_n hx hb lx_d_495 rfl (lv_at hl 3 rfl) ?_
  refine lv_iload_n hx hb lx_d_496 rfl (lv_at hl 0 rfl) ?_
  refine lv_iconst (v := 1) hx hb lx_d_497 (by decide) ?_
  refine lv_iadd hx hb lx_d_498 ?_
  refine va_sld hx hb hX hbl hbA w.2.2 hv.1 lx_d_499 ?_
  refine lx_cM (rest := [.int r]) hx hb hml hown hts F w c2 rfl lx_m_layUp_w.1 lx_m_layUp_w.2.1 lx_m_layUp_w.2.2.1 lx_m_layUp_w.2.2.2 lx_m_layUp_c lx_m_layUp_y ⟨(Nat.le_of_ble_eq_true rfl), (Nat.le_of_ble_eq_true rfl)⟩ hcs hl.1 rfl (Nat.le_of_ble_eq_true rfl) rfl lx_d_500 (fun H locs w => ?_)
  exact lv_icmp_eq (tgt := 1366) hx hb lx_d_503 (by decide) (fun _ => kk _ _ _ _ hR2 w) (fun q => absurd rfl q)
theorem lx_c_strokes_w : Cond.methodLink R_law 58 y_Club_strokes ∈ lw_tbl ∧ Cond.instanceMethod y_Club_strokes ∈ lw_tbl ∧ Cond.selects y_Club_strokes.cls y_Club_strokes y_Club_strokes ∈ lw_tbl ∧ Cond.initialized y_Club_strokes.cls ∈ lw_tbl := ⟨List.mem_of_getElem? (i := 801) (by decide +kernel), List.mem_of_getElem? (i := 802) (by decide +kernel), List.mem_of_getElem? (i := 803) (by decide +kernel), List.mem_of_getElem? (i := 83) (by decide +kernel)⟩
theorem lx_c_strokes_c : Cond.code y_Club_strokes prog_1_method_14_code 6 (some .long) ∈ am_T := am_in 804 (by decide +kernel) (by decide +kernel)
theorem lx_c_strokes_y : y_Club_strokes.cls ≠ "java/lang/invoke/MethodHandle" ∧ y_Club_strokes.cls ≠ "java/lang/invoke/VarHandle" ∧ (parseMethodDescriptor y_Club_strokes.desc).map (fun d => d.parameters.length) = some 3 := ⟨by decide +kernel, by decide +kernel, by decide +kernel⟩
theorem lx_m_strokes_w : Cond.methodLink R_law 61 y_Model_strokes ∈ lw_tbl ∧ Cond.instanceMethod y_Model_strokes ∈ lw_tbl ∧ Cond.selects y_Model_strokes.cls y_Model_strokes y_Model_strokes ∈ lw_tbl ∧ Cond.initialized y_Model_strokes.cls ∈ lw_tbl := ⟨List.mem_of_getElem? (i := 1612) (by decide +kernel), List.mem_of_getElem? (i := 1613) (by decide +kernel), List.mem_of_getElem? (i := 1614) (by decide +kernel), List.mem_of_getElem? (i := 94) (by decide +kernel)⟩
theorem lx_m_strokes_c : Cond.code y_Model_strokes prog_12_method_49_code 4 (some .long) ∈ am_T := am_in 1615 (by decide +kernel) (by decide +kernel)
theorem lx_m_strokes_y : y_Model_strokes.cls ≠ "java/lang/invoke/MethodHandle" ∧ y_Model_strokes.cls ≠ "java/lang/invoke/VarHandle" ∧ (parseMethodDescriptor y_Model_strokes.desc).map (fun d => d.parameters.length) = some 3 := ⟨by decide +kernel, by decide +kernel, by decide +kernel⟩
theorem lx_s10 (C0 : lw_At p s m0 meth c b L xs) (F : lx_F s D g adx adm) (hR : Rel x m) (w : lx_W s D g adx adm H locs x m) (hv : lx_in i3 L) (hcs : cells ≤ room_1.cells ∧ slots ≤ room_1.slots) (hl : lv_has ls 4 [(3, .int i3), (2, .ref (adm 0)), (1, .ref (adx 0)), (0, .ref b)]) (kk : lx_K1 p l e s m0 b below meth c D g adx adm cells slots ls Q) : W p l e room_1 s m0 #[.ref b] below meth c H locs cells slots Q (F0 m0 508 ls []) := by
  obtain ⟨hx, hb, hr, hml, hown, hts, hX, hbl, hlocks, hgv⟩ := C0
  have hbA : ¬ (fun q : Nat => s.heap.size ≤ q) b := Nat.not_le.mpr hbl
  obtain ⟨r, xx, mm, hR2, c1, c2⟩ := P_strokes hR (xs (i3 + 1).toNatClampNeg) (xs (i3 + 2).toNatClampNeg) (xs (i3 + 3).toNatClampNeg)
  refine lv_aload_n hx hb lx_d_508 rfl (lv_at hl 2 rfl) ?_
  refine lv_aload_n hx hb lx_d_509 rfl (lv_at hl 3 rfl) ?_
  refine lv_iload_n hx hb lx_d_510 rfl (lv_at hl 0 rfl) ?_
  refine lv_iconst (v := 1) hx hb lx_d_511 (by decide) ?_
  refine lv_iadd hx hb lx_d_512 ?_
  refine va_sld hx hb hX hbl hbA w.2.2 hv.1 lx_d_513 ?_
  refine lv_aload_n hx hb lx_d_514 rfl (lv_at hl 3 rfl) ?_
  refine lv_iload_n hx hb lx_d_515 rfl (lv_at hl 0 rfl) ?_
  refine lv_iconst (v := 2) hx hb lx_d_516 (by decide) ?_
  refine lv_iadd hx hb lx_d_517 ?_
  refine va_sld hx hb hX hbl hbA w.2.2 hv.2.1 lx_d_518 ?_
  refine lv_aload_n hx hb lx_d_519 rfl (lv_at hl 3 rfl) ?_
  refine lv_iload_n hx hb lx_d_520 rfl (lv_at hl 0 rfl) ?_
  refine lv_iconst (v := 3) hx hb lx_d_521 (by decide) ?_
  refine lv_iadd hx hb lx_d_522 ?_
  refine va_sld hx hb hX hbl hbA w.2.2 hv.2.2.1 lx_d_523 ?_
  refine lx_cX (rest := []) hx hb hml hown hts F w c1 rfl lx_c_strokes_w.1 lx_c_strokes_w.2.1 lx_c_strokes_w.2.2.1 lx_c_strokes_w.2.2.2 lx_c_strokes_c lx_c_strokes_y ⟨(Nat.le_of_ble_eq_true rfl), (Nat.le_of_ble_eq_true rfl)⟩ hcs hl.1 rfl (Nat.le_of_ble_eq_true rfl) rfl lx_d_524 (fun H locs w => ?_)
  refine lv_aload_n hx hb lx_d_527 rfl (lv_at hl 1 rfl) ?_
  refine lv_aload_n hx hb lx_d_528 rfl (lv_at hl 3 rfl) ?_
  refine lv_iload_n hx hb lx_d_529 rfl (lv_at hl 0 rfl) ?_
  refine lv_iconst (v := 1) hx hb lx_d_530 (by decide) ?_
  refine lv_iadd hx hb lx_d_531 ?_
  refine va_sld hx hb hX hbl hbA w.2.2 hv.1 lx_d_532 ?_
  refine lv_aload_n hx hb lx_d_533 rfl (lv_at hl 3 rfl) ?_
  refine lv_iload_n hx hb lx_d_534 rfl (lv_at hl 0 rfl) ?_
  refine lv_iconst (v := 2) hx hb lx_d_535 (by decide) ?_
  refine lv_iadd hx hb lx_d_536 ?_
  refine va_sld hx hb hX hbl hbA w.2.2 hv.2.1 lx_d_537 ?_
  refine lv_aload_n hx hb lx_d_538 rfl (lv_at hl 3 rfl) ?_
  refine lv_iload_n hx hb lx_d_539 rfl (lv_at hl 0 rfl) ?_
  refine lv_iconst (v := 3) hx hb lx_d_540 (by decide) ?_
  refine lv_iadd hx hb lx_d_541 ?_
  refine va_sld hx hb hX hbl hbA w.2.2 hv.2.2.1 lx_d_542 ?_
  refine lx_cM (rest := [.long r]) hx hb hml hown hts F w c2 rfl lx_m_strokes_w.1 lx_m_strokes_w.2.1 lx_m_strokes_w.2.2.1 lx_m_strokes_w.2.2.2 lx_m_strokes_c lx_m_strokes_y ⟨(Nat.le_of_ble_eq_true rfl), (Nat.le_of_ble_eq_true rfl)⟩ hcs hl.1 rfl (Nat.le_of_ble_eq_true rfl) rfl lx_d_543 (fun H locs w => ?_)
  refine W.lcmp hx hb lx_d_546 ?_
  rw [lx_cmp]
  exact lv_if_eq (tgt := 1366) hx hb lx_d_547 (by decide) (fun _ => kk _ _ _ _ hR2 w) (fun q => absurd rfl q)
theorem lx_c_byLaw_w : Cond.methodLink R_law 62 y_Club_byLaw ∈ lw_tbl ∧ Cond.instanceMethod y_Club_byLaw ∈ lw_tbl ∧ Cond.selects y_Club_byLaw.cls y_Club_byLaw y_Club_byLaw ∈ lw_tbl ∧ Cond.initialized y_Club_byLaw.cls ∈ lw_tbl := ⟨List.mem_of_getElem? (i := 854) (by decide +kernel), List.mem_of_getElem? (i := 855) (by decide +kernel), List.mem_of_getElem? (i := 856) (by decide +kernel), List.mem_of_getElem? (i := 83) (by decide +kernel)⟩
theorem lx_c_byLaw_c : Cond.code y_Club_byLaw prog_1_method_15_code 4 (some .long) ∈ am_T := am_in 857 (by decide +kernel) (by decide +kernel)
theorem lx_c_byLaw_y : y_Club_byLaw.cls ≠ "java/lang/invoke/MethodHandle" ∧ y_Club_byLaw.cls ≠ "java/lang/invoke/VarHandle" ∧ (parseMethodDescriptor y_Club_byLaw.desc).map (fun d => d.parameters.length) = some 3 := ⟨by decide +kernel, by decide +kernel, by decide +kernel⟩
theorem lx_m_byLaw_w : Cond.methodLink R_law 65 y_Model_byLaw ∈ lw_tbl ∧ Cond.instanceMethod y_Model_byLaw ∈ lw_tbl ∧ Cond.selects y_Model_byLaw.cls y_Model_byLaw y_Model_byLaw ∈ lw_tbl ∧ Cond.initialized y_Model_byLaw.cls ∈ lw_tbl := ⟨List.mem_of_getElem? (i := 1630) (by decide +kernel), List.mem_of_getElem? (i := 1631) (by decide +kernel), List.mem_of_getElem? (i := 1632) (by decide +kernel), List.mem_of_getElem? (i := 94) (by decide +kernel)⟩
theorem lx_m_byLaw_c : Cond.code y_Model_byLaw prog_12_method_50_code 4 (some .long) ∈ am_T := am_in 1633 (by decide +kernel) (by decide +kernel)
theorem lx_m_byLaw_y : y_Model_byLaw.cls ≠ "java/lang/invoke/MethodHandle" ∧ y_Model_byLaw.cls ≠ "java/lang/invoke/VarHandle" ∧ (parseMethodDescriptor y_Model_byLaw.desc).map (fun d => d.parameters.length) = some 3 := ⟨by decide +kernel, by decide +kernel, by decide +kernel⟩
theorem lx_s11 (C0 : lw_At p s m0 meth c b L xs) (F : lx_F s D g adx adm) (hR : Rel x m) (w : lx_W s D g adx adm H locs x m) (hv : lx_in i3 L) (hcs : cells ≤ room_1.cells ∧ slots ≤ room_1.slots) (hl : lv_has ls 4 [(3, .int i3), (2, .ref (adm 0)), (1, .ref (adx 0)), (0, .ref b)]) (kk : lx_K1 p l e s m0 b below meth c D g adx adm cells slots ls Q) : W p l e room_1 s m0 #[.ref b] below meth c H locs cells slots Q (F0 m0 552 ls []) := by
  obtain ⟨hx, hb, hr, hml, hown, hts, hX, hbl, hlocks, hgv⟩ := C0
  have hbA : ¬ (fun q : Nat => s.heap.size ≤ q) b := Nat.not_le.mpr hbl
  obtain ⟨r, xx, mm, hR2, c1, c2⟩ := P_byLaw hR (xs (i3 + 1).toNatClampNeg) (xs (i3 + 2).toNatClampNeg) (xs (i3 + 3).toNatClampNeg)
  refine lv_aload_n hx hb lx_d_552 rfl (lv_at hl 2 rfl) ?_
  refine lv_aload_n hx hb lx_d_553 rfl (lv_at hl 3 rfl) ?_
  refine lv_iload_n hx hb lx_d_554 rfl (lv_at hl 0 rfl) ?_
  refine lv_iconst (v := 1) hx hb lx_d_555 (by decide) ?_
  refine lv_iadd hx hb lx_d_556 ?_
  refine va_sld hx hb hX hbl hbA w.2.2 hv.1 lx_d_557 ?_
  refine lv_aload_n hx hb lx_d_558 rfl (lv_at hl 3 rfl) ?_
  refine lv_iload_n hx hb lx_d_559 rfl (lv_at hl 0 rfl) ?_
  refine lv_iconst (v := 2) hx hb lx_d_560 (by decide) ?_
  refine lv_iadd hx hb lx_d_561 ?_
  refine va_sld hx hb hX hbl hbA w.2.2 hv.2.1 lx_d_562 ?_
  refine lv_aload_n hx hb lx_d_563 rfl (lv_at hl 3 rfl) ?_
  refine lv_iload_n hx hb lx_d_564 rfl (lv_at hl 0 rfl) ?_
  refine lv_iconst (v := 3) hx hb lx_d_565 (by decide) ?_
  refine lv_iadd hx hb lx_d_566 ?_
  refine va_sld hx hb hX hbl hbA w.2.2 hv.2.2.1 lx_d_567 ?_
  refine lx_cX (rest := []) hx hb hml hown hts F w c1 rfl lx_c_byLaw_w.1 lx_c_byLaw_w.2.1 lx_c_byLaw_w.2.2.1 lx_c_byLaw_w.2.2.2 lx_c_byLaw_c lx_c_byLaw_y ⟨(Nat.le_of_ble_eq_true rfl), (Nat.le_of_ble_eq_true rfl)⟩ hcs hl.1 rfl (Nat.le_of_ble_eq_true rfl) rfl lx_d_568 (fun H locs w => ?_)
  refine lv_aload_n hx hb lx_d_571 rfl (lv_at hl 1 rfl) ?_
  refine lv_aload_n hx hb lx_d_572 rfl (lv_at hl 3 rfl) ?_
  refine lv_iload_n hx hb lx_d_573 rfl (lv_at hl 0 rfl) ?_
  refine lv_iconst (v := 1) hx hb lx_d_574 (by decide) ?_
  refine lv_iadd hx hb lx_d_575 ?_
  refine va_sld hx hb hX hbl hbA w.2.2 hv.1 lx_d_576 ?_
  refine lv_aload_n hx hb lx_d_577 rfl (lv_at hl 3 rfl) ?_
  refine lv_iload_n hx hb lx_d_578 rfl (lv_at hl 0 rfl) ?_
  refine lv_iconst (v := 2) hx hb lx_d_579 (by decide) ?_
  refine lv_iadd hx hb lx_d_580 ?_
  refine va_sld hx hb hX hbl hbA w.2.2 hv.2.1 lx_d_581 ?_
  refine lv_aload_n hx hb lx_d_582 rfl (lv_at hl 3 rfl) ?_
  refine lv_iload_n hx hb lx_d_583 rfl (lv_at hl 0 rfl) ?_
  refine lv_iconst (v := 3) hx hb lx_d_584 (by decide) ?_
  refine lv_iadd hx hb lx_d_585 ?_
  refine va_sld hx hb hX hbl hbA w.2.2 hv.2.2.1 lx_d_586 ?_
  refine lx_cM (rest := [.long r]) hx hb hml hown hts F w c2 rfl lx_m_byLaw_w.1 lx_m_byLaw_w.2.1 lx_m_byLaw_w.2.2.1 lx_m_byLaw_w.2.2.2 lx_m_byLaw_c lx_m_byLaw_y ⟨(Nat.le_of_ble_eq_true rfl), (Nat.le_of_ble_eq_true rfl)⟩ hcs hl.1 rfl (Nat.le_of_ble_eq_true rfl) rfl lx_d_587 (fun H locs w => ?_)
  refine W.lcmp hx hb lx_d_590 ?_
  rw [lx_cmp]
  exact lv_if_eq (tgt := 1366) hx hb lx_d_591 (by decide) (fun _ => kk _ _ _ _ hR2 w) (fun q => absurd rfl q)
theorem lx_c_lie_w : Cond.methodLink R_law 66 y_Club_lie ∈ lw_tbl ∧ Cond.instanceMethod y_Club_lie ∈ lw_tbl ∧ Cond.selects y_Club_lie.cls y_Club_lie y_Club_lie ∈ lw_tbl ∧ Cond.initialized y_Club_lie.cls ∈ lw_tbl := ⟨List.mem_of_getElem? (i := 868) (by decide +kernel), List.mem_of_getElem? (i := 869) (by decide +kernel), List.mem_of_getElem? (i := 870) (by decide +kernel), List.mem_of_getElem? (i := 83) (by decide +kernel)⟩
theorem lx_c_lie_c : Cond.code y_Club_lie prog_1_method_16_code 13 (some .long) ∈ am_T := am_in 871 (by decide +kernel) (by decide +kernel)
theorem lx_c_lie_y : y_Club_lie.cls ≠ "java/lang/invoke/MethodHandle" ∧ y_Club_lie.cls ≠ "java/lang/invoke/VarHandle" ∧ (parseMethodDescriptor y_Club_lie.desc).map (fun d => d.parameters.length) = some 3 := ⟨by decide +kernel, by decide +kernel, by decide +kernel⟩
theorem lx_m_lie_w : Cond.methodLink R_law 69 y_Model_lie ∈ lw_tbl ∧ Cond.instanceMethod y_Model_lie ∈ lw_tbl ∧ Cond.selects y_Model_lie.cls y_Model_lie y_Model_lie ∈ lw_tbl ∧ Cond.initialized y_Model_lie.cls ∈ lw_tbl := ⟨List.mem_of_getElem? (i := 1634) (by decide +kernel), List.mem_of_getElem? (i := 1635) (by decide +kernel), List.mem_of_getElem? (i := 1636) (by decide +kernel), List.mem_of_getElem? (i := 94) (by decide +kernel)⟩
theorem lx_m_lie_c : Cond.code y_Model_lie prog_12_method_51_code 17 (some .long) ∈ am_T := am_in 1637 (by decide +kernel) (by decide +kernel)
theorem lx_m_lie_y : y_Model_lie.cls ≠ "java/lang/invoke/MethodHandle" ∧ y_Model_lie.cls ≠ "java/lang/invoke/VarHandle" ∧ (parseMethodDescriptor y_Model_lie.desc).map (fun d => d.parameters.length) = some 3 := ⟨by decide +kernel, by decide +kernel, by decide +kernel⟩
theorem lx_s12 (C0 : lw_At p s m0 meth c b L xs) (F : lx_F s D g adx adm) (hR : Rel x m) (w : lx_W s D g adx adm H locs x m) (hv : lx_in i3 L) (hcs : cells ≤ room_1.cells ∧ slots ≤ room_1.slots) (hl : lv_has ls 4 [(3, .int i3), (2, .ref (adm 0)), (1, .ref (adx 0)), (0, .ref b)]) (kk : lx_K1 p l e s m0 b below meth c D g adx adm cells slots ls Q) : W p l e room_1 s m0 #[.ref b] below meth c H locs cells slots Q (F0 m0 596 ls []) := by
  obtain ⟨hx, hb, hr, hml, hown, hts, hX, hbl, hlocks, hgv⟩ := C0
  have hbA : ¬ (fun q : Nat => s.heap.size ≤ q) b := Nat.not_le.mpr hbl
  obtain ⟨r, xx, mm, hR2, c1, c2⟩ := P_lie hR (xs (i3 + 1).toNatClampNeg) (xs (i3 + 2).toNatClampNeg) (xs (i3 + 3).toNatClampNeg)
  refine lv_aload_n hx hb lx_d_596 rfl (lv_at hl 2 rfl) ?_
  refine lv_aload_n hx hb lx_d_597 rfl (lv_at hl 3 rfl) ?_
  refine lv_iload_n hx hb lx_d_598 rfl (lv_at hl 0 rfl) ?_
  refine lv_iconst (v := 1) hx hb lx_d_599 (by decide) ?_
  refine lv_iadd hx hb lx_d_600 ?_
  refine va_sld hx hb hX hbl hbA w.2.2 hv.1 lx_d_601 ?_
  refine lv_aload_n hx hb lx_d_602 rfl (lv_at hl 3 rfl) ?_
  refine lv_iload_n hx hb lx_d_603 rfl (lv_at hl 0 rfl) ?_
  refine lv_iconst (v := 2) hx hb lx_d_604 (by decide) ?_
  refine lv_iadd hx hb lx_d_605 ?_
  refine va_sld hx hb hX hbl hbA w.2.2 hv.2.1 lx_d_606 ?_
  refine lv_aload_n hx hb lx_d_607 rfl (lv_at hl 3 rfl) ?_
  refine lv_iload_n hx hb lx_d_608 rfl (lv_at hl 0 rfl) ?_
  refine lv_iconst (v := 3) hx hb lx_d_609 (by decide) ?_
  refine lv_iadd hx hb lx_d_610 ?_
  refine va_sld hx hb hX hbl hbA w.2.2 hv.2.2.1 lx_d_611 ?_
  refine lx_cX (rest := []) hx hb hml hown hts F w c1 rfl lx_c_lie_w.1 lx_c_lie_w.2.1 lx_c_lie_w.2.2.1 lx_c_lie_w.2.2.2 lx_c_lie_c lx_c_lie_y ⟨(Nat.le_of_ble_eq_true rfl), (Nat.le_of_ble_eq_true rfl)⟩ hcs hl.1 rfl (Nat.le_of_ble_eq_true rfl) rfl lx_d_612 (fun H locs w => ?_)
  refine lv_aload_n hx hb lx_d_615 rfl (lv_at hl 1 rfl) ?_
  refine lv_aload_n hx hb lx_d_616 rfl (lv_at hl 3 rfl) ?_
  refine lv_iload_n hx hb lx_d_617 rfl (lv_at hl 0 rfl) ?_
  refine lv_iconst (v := 1) hx hb lx_d_618 (by decide) ?_
  refine lv_iadd hx hb lx_d_619 ?_
  refine va_sld hx hb hX hbl hbA w.2.2 hv.1 lx_d_620 ?_
  refine lv_aload_n hx hb lx_d_621 rfl (lv_at hl 3 rfl) ?_
  refine lv_iload_n hx hb lx_d_622 rfl (lv_at hl 0 rfl) ?_
  refine lv_iconst (v := 2) hx hb lx_d_623 (by decide) ?_
  refine lv_iadd hx hb lx_d_624 ?_
  refine va_sld hx hb hX hbl hbA w.2.2 hv.2.1 lx_d_625 ?_
  refine lv_aload_n hx hb lx_d_626 rfl (lv_at hl 3 rfl) ?_
  refine lv_iload_n hx hb lx_d_627 rfl (lv_at hl 0 rfl) ?_
  refine lv_iconst (v := 3) hx hb lx_d_628 (by decide) ?_
  refine lv_iadd hx hb lx_d_629 ?_
  refine va_sld hx hb hX hbl hbA w.2.2 hv.2.2.1 lx_d_630 ?_
  refine lx_cM (rest := [.long r]) hx hb hml hown hts F w c2 rfl lx_m_lie_w.1 lx_m_lie_w.2.1 lx_m_lie_w.2.2.1 lx_m_lie_w.2.2.2 lx_m_lie_c lx_m_lie_y ⟨(Nat.le_of_ble_eq_true rfl), (Nat.le_of_ble_eq_true rfl)⟩ hcs hl.1 rfl (Nat.le_of_ble_eq_true rfl) rfl lx_d_631 (fun H locs w => ?_)
  refine W.lcmp hx hb lx_d_634 ?_
  rw [lx_cmp]
  exact lv_if_eq (tgt := 1366) hx hb lx_d_635 (by decide) (fun _ => kk _ _ _ _ hR2 w) (fun q => absurd rfl q)
theorem lx_c_atPin_w : Cond.methodLink R_law 70 y_Club_atPin ∈ lw_tbl ∧ Cond.instanceMethod y_Club_atPin ∈ lw_tbl ∧ Cond.selects y_Club_atPin.cls y_Club_atPin y_Club_atPin ∈ lw_tbl ∧ Cond.initialized y_Club_atPin.cls ∈ lw_tbl := ⟨List.mem_of_getElem? (i := 881) (by decide +kernel), List.mem_of_getElem? (i := 882) (by decide +kernel), List.mem_of_getElem? (i := 883) (by decide +kernel), List.mem_of_getElem? (i := 83) (by decide +kernel)⟩
theorem lx_c_atPin_c : Cond.code y_Club_atPin prog_1_method_17_code 6 (some .long) ∈ am_T := am_in 884 (by decide +kernel) (by decide +kernel)
theorem lx_c_atPin_y : y_Club_atPin.cls ≠ "java/lang/invoke/MethodHandle" ∧ y_Club_atPin.cls ≠ "java/lang/invoke/VarHandle" ∧ (parseMethodDescriptor y_Club_atPin.desc).map (fun d => d.parameters.length) = some 2 := ⟨by decide +kernel, by decide +kernel, by decide +kernel⟩
theorem lx_m_atPin_w : Cond.methodLink R_law 74 y_Model_atPin ∈ lw_tbl ∧ Cond.instanceMethod y_Model_atPin ∈ lw_tbl ∧ Cond.selects y_Model_atPin.cls y_Model_atPin y_Model_atPin ∈ lw_tbl ∧ Cond.initialized y_Model_atPin.cls ∈ lw_tbl := ⟨List.mem_of_getElem? (i := 1638) (by decide +kernel), List.mem_of_getElem? (i := 1639) (by decide +kernel), List.mem_of_getElem? (i := 1640) (by decide +kernel), List.mem_of_getElem? (i := 94) (by decide +kernel)⟩
theorem lx_m_atPin_c : Cond.code y_Model_atPin prog_12_method_54_code 5 (some .long) ∈ am_T := am_in 1641 (by decide +kernel) (by decide +kernel)
theorem lx_m_atPin_y : y_Model_atPin.cls ≠ "java/lang/invoke/MethodHandle" ∧ y_Model_atPin.cls ≠ "java/lang/invoke/VarHandle" ∧ (parseMethodDescriptor y_Model_atPin.desc).map (fun d => d.parameters.length) = some 2 := ⟨by decide +kernel, by decide +kernel, by decide +kernel⟩
theorem lx_s13 (C0 : lw_At p s m0 meth c b L xs) (F : lx_F s D g adx adm) (hR : Rel x m) (w : lx_W s D g adx adm H locs x m) (hv : lx_in i3 L) (hcs : cells ≤ room_1.cells ∧ slots ≤ room_1.slots) (hl : lv_has ls 4 [(3, .int i3), (2, .ref (adm 0)), (1, .ref (adx 0)), (0, .ref b)]) (kk : lx_K1 p l e s m0 b below meth c D g adx adm cells slots ls Q) : W p l e room_1 s m0 #[.ref b] below meth c H locs cells slots Q (F0 m0 640 ls []) := by
  obtain ⟨hx, hb, hr, hml, hown, hts, hX, hbl, hlocks, hgv⟩ := C0
  have hbA : ¬ (fun q : Nat => s.heap.size ≤ q) b := Nat.not_le.mpr hbl
  obtain ⟨r, xx, mm, hR2, c1, c2⟩ := P_atPin hR (xs (i3 + 1).toNatClampNeg) (xs (i3 + 2).toNatClampNeg)
  refine lv_aload_n hx hb lx_d_640 rfl (lv_at hl 2 rfl) ?_
  refine lv_aload_n hx hb lx_d_641 rfl (lv_at hl 3 rfl) ?_
  refine lv_iload_n hx hb lx_d_642 rfl (lv_at hl 0 rfl) ?_
  refine lv_iconst (v := 1) hx hb lx_d_643 (by decide) ?_
  refine lv_iadd hx hb lx_d_644 ?_
  refine va_sld hx hb hX hbl hbA w.2.2 hv.1 lx_d_645 ?_
  refine lv_aload_n hx hb lx_d_646 rfl (lv_at hl 3 rfl) ?_
  refine lv_iload_n hx hb lx_d_647 rfl (lv_at hl 0 rfl) ?_
  refine lv_iconst (v := 2) hx hb lx_d_648 (by decide) ?_
  refine lv_iadd hx hb lx_d_649 ?_
  refine va_sld hx hb hX hbl hbA w.2.2 hv.2.1 lx_d_650 ?_
  refine lx_cX (rest := []) hx hb hml hown hts F w c1 rfl lx_c_atPin_w.1 lx_c_atPin_w.2.1 lx_c_atPin_w.2.2.1 lx_c_atPin_w.2.2.2 lx_c_atPin_c lx_c_atPin_y ⟨(Nat.le_of_ble_eq_true rfl), (Nat.le_of_ble_eq_true rfl)⟩ hcs hl.1 rfl (Nat.le_of_ble_eq_true rfl) rfl lx_d_651 (fun H locs w => ?_)
  refine lv_aload_n hx hb lx_d_654 rfl (lv_at hl 1 rfl) ?_
  refine lv_aload_n hx hb lx_d_655 rfl (lv_at hl 3 rfl) ?_
  refine lv_iload_n hx hb lx_d_656 rfl (lv_at hl 0 rfl) ?_
  refine lv_iconst (v := 1) hx hb lx_d_657 (by decide) ?_
  refine lv_iadd hx hb lx_d_658 ?_
  refine va_sld hx hb hX hbl hbA w.2.2 hv.1 lx_d_659 ?_
  refine lv_aload_n hx hb lx_d_660 rfl (lv_at hl 3 rfl) ?_
  refine lv_iload_n hx hb lx_d_661 rfl (lv_at hl 0 rfl) ?_
  refine lv_iconst (v := 2) hx hb lx_d_662 (by decide) ?_
  refine lv_iadd hx hb lx_d_663 ?_
  refine va_sld hx hb hX hbl hbA w.2.2 hv.2.1 lx_d_664 ?_
  refine lx_cM (rest := [.long r]) hx hb hml hown hts F w c2 rfl lx_m_atPin_w.1 lx_m_atPin_w.2.1 lx_m_atPin_w.2.2.1 lx_m_atPin_w.2.2.2 lx_m_atPin_c lx_m_atPin_y ⟨(Nat.le_of_ble_eq_true rfl), (Nat.le_of_ble_eq_true rfl)⟩ hcs hl.1 rfl (Nat.le_of_ble_eq_true rfl) rfl lx_d_665 (fun H locs w => ?_)
  refine W.lcmp hx hb lx_d_668 ?_
  rw [lx_cmp]
  exact lv_if_eq (tgt := 1366) hx hb lx_d_669 (by decide) (fun _ => kk _ _ _ _ hR2 w) (fun q => absurd rfl q)
theorem lx_c_practise_w : Cond.methodLink R_law 75 y_Club_practise ∈ lw_tbl ∧ Cond.instanceMethod y_Club_practise ∈ lw_tbl ∧ Cond.selects y_Club_practise.cls y_Club_practise y_Club_practise ∈ lw_tbl ∧ Cond.initialized y_Club_practise.cls ∈ lw_tbl := ⟨List.mem_of_getElem? (i := 908) (by decide +kernel), List.mem_of_getElem? (i := 909) (by decide +kernel), List.mem_of_getElem? (i := 910) (by decide +kernel), List.mem_of_getElem? (i := 83) (by decide +kernel)⟩
theorem lx_c_practise_c : Cond.code y_Club_practise prog_1_method_18_code 2 (some .long) ∈ am_T := am_in 911 (by decide +kernel) (by decide +kernel)
theorem lx_c_practise_y : y_Club_practise.cls ≠ "java/lang/invoke/MethodHandle" ∧ y_Club_practise.cls ≠ "java/lang/invoke/VarHandle" ∧ (parseMethodDescriptor y_Club_practise.desc).map (fun d => d.parameters.length) = some 1 := ⟨by decide +kernel, by decide +kernel, by decide +kernel⟩
theorem lx_m_practise_w : Cond.methodLink R_law 79 y_Model_practise ∈ lw_tbl ∧ Cond.instanceMethod y_Model_practise ∈ lw_tbl ∧ Cond.selects y_Model_practise.cls y_Model_practise y_Model_practise ∈ lw_tbl ∧ Cond.initialized y_Model_practise.cls ∈ lw_tbl := ⟨List.mem_of_getElem? (i := 1651) (by decide +kernel), List.mem_of_getElem? (i := 1652) (by decide +kernel), List.mem_of_getElem? (i := 1653) (by decide +kernel), List.mem_of_getElem? (i := 94) (by decide +kernel)⟩
theorem lx_m_practise_c : Cond.code y_Model_practise prog_12_method_57_code 11 (some .long) ∈ am_T := am_in 1654 (by decide +kernel) (by decide +kernel)
theorem lx_m_practise_y : y_Model_practise.cls ≠ "java/lang/invoke/MethodHandle" ∧ y_Model_practise.cls ≠ "java/lang/invoke/VarHandle" ∧ (parseMethodDescriptor y_Model_practise.desc).map (fun d => d.parameters.length) = some 1 := ⟨by decide +kernel, by decide +kernel, by decide +kernel⟩
theorem lx_s14 (C0 : lw_At p s m0 meth c b L xs) (F : lx_F s D g adx adm) (hR : Rel x m) (w : lx_W s D g adx adm H locs x m) (hv : lx_in i3 L) (hcs : cells ≤ room_1.cells ∧ slots ≤ room_1.slots) (hl : lv_has ls 4 [(3, .int i3), (2, .ref (adm 0)), (1, .ref (adx 0)), (0, .ref b)]) (kk : lx_K1 p l e s m0 b below meth c D g adx adm cells slots ls Q) : W p l e room_1 s m0 #[.ref b] below meth c H locs cells slots Q (F0 m0 674 ls []) := by
  obtain ⟨hx, hb, hr, hml, hown, hts, hX, hbl, hlocks, hgv⟩ := C0
  have hbA : ¬ (fun q : Nat => s.heap.size ≤ q) b := Nat.not_le.mpr hbl
  obtain ⟨r, xx, mm, hR2, c1, c2⟩ := P_practise hR (xs (i3 + 1).toNatClampNeg)
  refine lv_aload_n hx hb lx_d_674 rfl (lv_at hl 2 rfl) ?_
  refine lv_aload_n hx hb lx_d_675 rfl (lv_at hl 3 rfl) ?_
  refine lv_iload_n hx hb lx_d_676 rfl (lv_at hl 0 rfl) ?_
  refine lv_iconst (v := 1) hx hb lx_d_677 (by decide) ?_
  refine lv_iadd hx hb lx_d_678 ?_
  refine va_sld hx hb hX hbl hbA w.2.2 hv.1 lx_d_679 ?_
  refine lx_cX (rest := []) hx hb hml hown hts F w c1 rfl lx_c_practise_w.1 lx_c_practise_w.2.1 lx_c_practise_w.2.2.1 lx_c_practise_w.2.2.2 lx_c_practise_c lx_c_practise_y ⟨(Nat.le_of_ble_eq_true rfl), (Nat.le_of_ble_eq_true rfl)⟩ hcs hl.1 rfl (Nat.le_of_ble_eq_true rfl) rfl lx_d_680 (fun H locs w => ?_)
  refine lv_aload_n hx hb lx_d_683 rfl (lv_at hl 1 rfl) ?_
  refine lv_aload_n hx hb lx_d_684 rfl (lv_at hl 3 rfl) ?_
  refine lv_iload_n hx hb lx_d_685 rfl (lv_at hl 0 rfl) ?_
  refine lv_iconst (v := 1) hx hb lx_d_686 (by decide) ?_
  refine lv_iadd hx hb lx_d_687 ?_
  refine va_sld hx hb hX hbl hbA w.2.2 hv.1 lx_d_688 ?_
  refine lx_cM (rest := [.long r]) hx hb hml hown hts F w c2 rfl lx_m_practise_w.1 lx_m_practise_w.2.1 lx_m_practise_w.2.2.1 lx_m_practise_w.2.2.2 lx_m_practise_c lx_m_practise_y ⟨(Nat.le_of_ble_eq_true rfl), (Nat.le_of_ble_eq_true rfl)⟩ hcs hl.1 rfl (Nat.le_of_ble_eq_true rfl) rfl lx_d_689 (fun H locs w => ?_)
  refine W.lcmp hx hb lx_d_692 ?_
  rw [lx_cmp]
  exact lv_if_eq (tgt := 1366) hx hb lx_d_693 (by decide) (fun _ => kk _ _ _ _ hR2 w) (fun q => absurd rfl q)
theorem lx_c_dream_w : Cond.methodLink R_law 80 y_Club_dream ∈ lw_tbl ∧ Cond.instanceMethod y_Club_dream ∈ lw_tbl ∧ Cond.selects y_Club_dream.cls y_Club_dream y_Club_dream ∈ lw_tbl ∧ Cond.initialized y_Club_dream.cls ∈ lw_tbl := ⟨List.mem_of_getElem? (i := 931) (by decide +kernel), List.mem_of_getElem? (i := 932) (by decide +kernel), List.mem_of_getElem? (i := 933) (by decide +kernel), List.mem_of_getElem? (i := 83) (by decide +kernel)⟩
theorem lx_c_dream_c : Cond.code y_Club_dream prog_1_method_19_code 2 (some .long) ∈ am_T := am_in 934 (by decide +kernel) (by decide +kernel)
theorem lx_c_dream_y : y_Club_dream.cls ≠ "java/lang/invoke/MethodHandle" ∧ y_Club_dream.cls ≠ "java/lang/invoke/VarHandle" ∧ (parseMethodDescriptor y_Club_dream.desc).map (fun d => d.parameters.length) = some 1 := ⟨by decide +kernel, by decide +kernel, by decide +kernel⟩
theorem lx_m_dream_w : Cond.methodLink R_law 83 y_Model_dream ∈ lw_tbl ∧ Cond.instanceMethod y_Model_dream ∈ lw_tbl ∧ Cond.selects y_Model_dream.cls y_Model_dream y_Model_dream ∈ lw_tbl ∧ Cond.initialized y_Model_dream.cls ∈ lw_tbl := ⟨List.mem_of_getElem? (i := 1663) (by decide +kernel), List.mem_of_getElem? (i := 1664) (by decide +kernel), List.mem_of_getElem? (i := 1665) (by decide +kernel), List.mem_of_getElem? (i := 94) (by decide +kernel)⟩
theorem lx_m_dream_c : Cond.code y_Model_dream prog_12_method_58_code 7 (some .long) ∈ am_T := am_in 1666 (by decide +kernel) (by decide +kernel)
theorem lx_m_dream_y : y_Model_dream.cls ≠ "java/lang/invoke/MethodHandle" ∧ y_Model_dream.cls ≠ "java/lang/invoke/VarHandle" ∧ (parseMethodDescriptor y_Model_dream.desc).map (fun d => d.parameters.length) = some 1 := ⟨by decide +kernel, by decide +kernel, by decide +kernel⟩
theorem lx_s15 (C0 : lw_At p s m0 meth c b L xs) (F : lx_F s D g adx adm) (hR : Rel x m) (w : lx_W s D g adx adm H locs x m) (hv : lx_in i3 L) (hcs : cells ≤ room_1.cells ∧ slots ≤ room_1.slots) (hl : lv_has ls 4 [(3, .int i3), (2, .ref (adm 0)), (1, .ref (adx 0)), (0, .ref b)]) (kk : lx_K1 p l e s m0 b below meth c D g adx adm cells slots ls Q) : W p l e room_1 s m0 #[.ref b] below meth c H locs cells slots Q (F0 m0 698 ls []) := by
  obtain ⟨hx, hb, hr, hml, hown, hts, hX, hbl, hlocks, hgv⟩ := C0
  have hbA : ¬ (fun q : Nat => s.heap.size ≤ q) b := Nat.not_le.mpr hbl
  obtain ⟨r, xx, mm, hR2, c1, c2⟩ := P_dream hR (xs (i3 + 1).toNatClampNeg)
  refine lv_aload_n hx hb lx_d_698 rfl (lv_at hl 2 rfl) ?_
  refine lv_aload_n hx hb lx_d_699 rfl (lv_at hl 3 rfl) ?_
  refine lv_iload_n hx hb lx_d_700 rfl (lv_at hl 0 rfl) ?_
  refine lv_iconst (v := 1) hx hb lx_d_701 (by decide) ?_
  refine lv_iadd hx hb lx_d_702 ?_
  refine va_sld hx hb hX hbl hbA w.2.2 hv.1 lx_d_703 ?_
  refine lx_cX (rest := []) hx hb hml hown hts F w c1 rfl lx_c_dream_w.1 lx_c_dream_w.2.1 lx_c_dream_w.2.2.1 lx_c_dream_w.2.2.2 lx_c_dream_c lx_c_dream_y ⟨(Nat.le_of_ble_eq_true rfl), (Nat.le_of_ble_eq_true rfl)⟩ hcs hl.1 rfl (Nat.le_of_ble_eq_true rfl) rfl lx_d_704 (fun H locs w => ?_)
  refine lv_aload_n hx hb lx_d_707 rfl (lv_at hl 1 rfl) ?_
  refine lv_aload_n hx hb lx_d_708 rfl (lv_at hl 3 rfl) ?_
  refine lv_iload_n hx hb lx_d_709 rfl (lv_at hl 0 rfl) ?_
  refine lv_iconst (v := 1) hx hb lx_d_710 (by decide) ?_
  refine lv_iadd hx hb lx_d_711 ?_
  refine va_sld hx hb hX hbl hbA w.2.2 hv.1 lx_d_712 ?_
  refine lx_cM (rest := [.long r]) hx hb hml hown hts F w c2 rfl lx_m_dream_w.1 lx_m_dream_w.2.1 lx_m_dream_w.2.2.1 lx_m_dream_w.2.2.2 lx_m_dream_c lx_m_dream_y ⟨(Nat.le_of_ble_eq_true rfl), (Nat.le_of_ble_eq_true rfl)⟩ hcs hl.1 rfl (Nat.le_of_ble_eq_true rfl) rfl lx_d_713 (fun H locs w => ?_)
  refine W.lcmp hx hb lx_d_716 ?_
  rw [lx_cmp]
  exact lv_if_eq (tgt := 1366) hx hb lx_d_717 (by decide) (fun _ => kk _ _ _ _ hR2 w) (fun q => absurd rfl q)
end Lc
