/-! the cases of the law (by gen72.py) -/
section Lc
variable {p : Program} {l : Launch} {e : Env} {s : State} {m0 : MethodId} {below : List Frame} {meth : Method} {c : Code} {H : Heap} {locs : List Loc} {cells slots : Nat} {ls : Array Slot} {Q : State → Prop} {D : va_G} {g : am_G} {adx adm : Nat → Nat} {x m : am_H} {b L : Nat} {xs : Nat → Int32} {i3 : Int32}
theorem lx_c_judge_w : Cond.methodLink R_law 84 y_Club_judge ∈ lw_tbl ∧ Cond.instanceMethod y_Club_judge ∈ lw_tbl ∧ Cond.selects y_Club_judge.cls y_Club_judge y_Club_judge ∈ lw_tbl ∧ Cond.initialized y_Club_judge.cls ∈ lw_tbl := ⟨List.mem_of_getElem? (i := 940) (by decide +kernel), List.mem_of_getElem? (i := 941) (by decide +kernel), List.mem_of_getElem? (i := 942) (by decide +kernel), List.mem_of_getElem? (i := 83) (by decide +kernel)⟩
theorem lx_c_judge_c : Cond.code y_Club_judge prog_1_method_20_code 3 (some .int) ∈ am_T := am_in 943 (by decide +kernel) (by decide +kernel)
theorem lx_c_judge_y : y_Club_judge.cls ≠ "java/lang/invoke/MethodHandle" ∧ y_Club_judge.cls ≠ "java/lang/invoke/VarHandle" ∧ (parseMethodDescriptor y_Club_judge.desc).map (fun d => d.parameters.length) = some 1 := ⟨by decide +kernel, by decide +kernel, by decide +kernel⟩
theorem lx_m_judge_w : Cond.methodLink R_law 87 y_Model_judge ∈ lw_tbl ∧ Cond.instanceMethod y_Model_judge ∈ lw_tbl ∧ Cond.selects y_Model_judge.cls y_Model_judge y_Model_judge ∈ lw_tbl ∧ Cond.initialized y_Model_judge.cls ∈ lw_tbl := ⟨List.mem_of_getElem? (i := 1667) (by decide +kernel), List.mem_of_getElem? (i := 1668) (by decide +kernel), List.mem_of_getElem? (i := 1669) (by decide +kernel), List.mem_of_getElem? (i := 94) (by decide +kernel)⟩
theorem lx_m_judge_c : Cond.code y_Model_judge prog_12_method_63_code 3 (some .int) ∈ am_T := am_in 1670 (by decide +kernel) (by decide +kernel)
theorem lx_m_judge_y : y_Model_judge.cls ≠ "java/lang/invoke/MethodHandle" ∧ y_Model_judge.cls ≠ "java/lang/invoke/VarHandle" ∧ (parseMethodDescriptor y_Model_judge.desc).map (fun d => d.parameters.length) = some 1 := ⟨by decide +kernel, by decide +kernel, by decide +kernel⟩
theorem lx_s16 (C0 : lw_At p s m0 meth c b L xs) (F : lx_F s D g adx adm) (hR : Rel x m) (w : lx_W s D g adx adm H locs x m) (hv : lx_in i3 L) (hcs : cells ≤ room_1.cells ∧ slots ≤ room_1.slots) (hl : lv_has ls 4 [(3, .int i3), (2, .ref (adm 0)), (1, .ref (adx 0)), (0, .ref b)]) (kk : lx_K1 p l e s m0 b below meth c D g adx adm cells slots ls Q) : W p l e room_1 s m0 #[.ref b] below meth c H locs cells slots Q (F0 m0 722 ls []) := by
  obtain ⟨hx, hb, hr, hml, hown, hts, hX, hbl, hlocks, hgv⟩ := C0
  have hbA : ¬ (fun q : Nat => s.heap.size ≤ q) b := Nat.not_le.mpr hbl
  obtain ⟨r, xx, mm, hR2, c1, c2⟩ := P_judge hR (xs (i3 + 1).toNatClampNeg)
  refine lv_aload_n hx hb lx_d_722 rfl (lv_at hl 2 rfl) ?_
  refine lv_aload_n hx hb lx_d_723 rfl (lv_at hl 3 rfl) ?_
  refine lv_iload_n hx hb lx_d_724 rfl (lv_at hl 0 rfl) ?_
  refine lv_iconst (v := 1) hx hb lx_d_725 (by decide) ?_
  refine lv_iadd hx hb lx_d_726 ?_
  refine va_sld hx hb hX hbl hbA w.2.2 hv.1 lx_d_727 ?_
  refine lx_cX (rest := []) hx hb hml hown hts F w c1 rfl lx_c_judge_w.1 lx_c_judge_w.2.1 lx_c_judge_w.2.2.1 lx_c_judge_w.2.2.2 lx_c_judge_c lx_c_judge_y ⟨(Nat.le_of_ble_eq_true rfl), (Nat.le_of_ble_eq_true rfl)⟩ hcs hl.1 rfl (Nat.le_of_ble_eq_true rfl) rfl lx_d_728 (fun H locs w => ?_)
  refine lv_aload_n hx hb lx_d_731 rfl (lv_at hl 1 rfl) ?_
  refine lv_aload_n hx hb lx_d_732 rfl (lv_at hl 3 rfl) ?_
  refine lv_iload_n hx hb lx_d_733 rfl (lv_at hl 0 rfl) ?_
  refine lv_iconst (v := 1) hx hb lx_d_734 (by decide) ?_
  refine lv_iadd hx hb lx_d_735 ?_
  refine va_sld hx hb hX hbl hbA w.2.2 hv.1 lx_d_736 ?_
  refine lx_cM (rest := [.int r]) hx hb hml hown hts F w c2 rfl lx_m_judge_w.1 lx_m_judge_w.2.1 lx_m_judge_w.2.2.1 lx_m_judge_w.2.2.2 lx_m_judge_c lx_m_judge_y ⟨(Nat.le_of_ble_eq_true rfl), (Nat.le_of_ble_eq_true rfl)⟩ hcs hl.1 rfl (Nat.le_of_ble_eq_true rfl) rfl lx_d_737 (fun H locs w => ?_)
  exact lv_icmp_eq (tgt := 1366) hx hb lx_d_740 (by decide) (fun _ => kk _ _ _ _ hR2 w) (fun q => absurd rfl q)
theorem lx_c_truly_w : Cond.methodLink R_law 88 y_Club_truly ∈ lw_tbl ∧ Cond.instanceMethod y_Club_truly ∈ lw_tbl ∧ Cond.selects y_Club_truly.cls y_Club_truly y_Club_truly ∈ lw_tbl ∧ Cond.initialized y_Club_truly.cls ∈ lw_tbl := ⟨List.mem_of_getElem? (i := 967) (by decide +kernel), List.mem_of_getElem? (i := 968) (by decide +kernel), List.mem_of_getElem? (i := 969) (by decide +kernel), List.mem_of_getElem? (i := 83) (by decide +kernel)⟩
theorem lx_c_truly_c : Cond.code y_Club_truly prog_1_method_21_code 4 (some .int) ∈ am_T := am_in 970 (by decide +kernel) (by decide +kernel)
theorem lx_c_truly_y : y_Club_truly.cls ≠ "java/lang/invoke/MethodHandle" ∧ y_Club_truly.cls ≠ "java/lang/invoke/VarHandle" ∧ (parseMethodDescriptor y_Club_truly.desc).map (fun d => d.parameters.length) = some 2 := ⟨by decide +kernel, by decide +kernel, by decide +kernel⟩
theorem lx_m_truly_w : Cond.methodLink R_law 91 y_Model_truly ∈ lw_tbl ∧ Cond.instanceMethod y_Model_truly ∈ lw_tbl ∧ Cond.selects y_Model_truly.cls y_Model_truly y_Model_truly ∈ lw_tbl ∧ Cond.initialized y_Model_truly.cls ∈ lw_tbl := ⟨List.mem_of_getElem? (i := 1687) (by decide +kernel), List.mem_of_getElem? (i := 1688) (by decide +kernel), List.mem_of_getElem? (i := 1689) (by decide +kernel), List.mem_of_getElem? (i := 94) (by decide +kernel)⟩
theorem lx_m_truly_c : Cond.code y_Model_truly prog_12_method_64_code 11 (some .int) ∈ am_T := am_in 1690 (by decide +kernel) (by decide +kernel)
theorem lx_m_truly_y : y_Model_truly.cls ≠ "java/lang/invoke/MethodHandle" ∧ y_Model_truly.cls ≠ "java/lang/invoke/VarHandle" ∧ (parseMethodDescriptor y_Model_truly.desc).map (fun d => d.parameters.length) = some 2 := ⟨by decide +kernel, by decide +kernel, by decide +kernel⟩
theorem lx_s17 (C0 : lw_At p s m0 meth c b L xs) (F : lx_F s D g adx adm) (hR : Rel x m) (w : lx_W s D g adx adm H locs x m) (hv : lx_in i3 L) (hcs : cells ≤ room_1.cells ∧ slots ≤ room_1.slots) (hl : lv_has ls 4 [(3, .int i3), (2, .ref (adm 0)), (1, .ref (adx 0)), (0, .ref b)]) (kk : lx_K1 p l e s m0 b below meth c D g adx adm cells slots ls Q) : W p l e room_1 s m0 #[.ref b] below meth c H locs cells slots Q (F0 m0 745 ls []) := by
  obtain ⟨hx, hb, hr, hml, hown, hts, hX, hbl, hlocks, hgv⟩ := C0
  have hbA : ¬ (fun q : Nat => s.heap.size ≤ q) b := Nat.not_le.mpr hbl
  obtain ⟨r, xx, mm, hR2, c1, c2⟩ := P_truly hR (xs (i3 + 1).toNatClampNeg) (xs (i3 + 2).toNatClampNeg)
  refine lv_aload_n hx hb lx_d_745 rfl (lv_at hl 2 rfl) ?_
  refine lv_aload_n hx hb lx_d_746 rfl (lv_at hl 3 rfl) ?_
  refine lv_iload_n hx hb lx_d_747 rfl (lv_at hl 0 rfl) ?_
  refine lv_iconst (v := 1) hx hb lx_d_748 (by decide) ?_
  refine lv_iadd hx hb lx_d_749 ?_
  refine va_sld hx hb hX hbl hbA w.2.2 hv.1 lx_d_750 ?_
  refine lv_aload_n hx hb lx_d_751 rfl (lv_at hl 3 rfl) ?_
  refine lv_iload_n hx hb lx_d_752 rfl (lv_at hl 0 rfl) ?_
  refine lv_iconst (v := 2) hx hb lx_d_753 (by decide) ?_
  refine lv_iadd hx hb lx_d_754 ?_
  refine va_sld hx hb hX hbl hbA w.2.2 hv.2.1 lx_d_755 ?_
  refine lx_cX (rest := []) hx hb hml hown hts F w c1 rfl lx_c_truly_w.1 lx_c_truly_w.2.1 lx_c_truly_w.2.2.1 lx_c_truly_w.2.2.2 lx_c_truly_c lx_c_truly_y ⟨(Nat.le_of_ble_eq_true rfl), (Nat.le_of_ble_eq_true rfl)⟩ hcs hl.1 rfl (Nat.le_of_ble_eq_true rfl) rfl lx_d_756 (fun H locs w => ?_)
  refine lv_aload_n hx hb lx_d_759 rfl (lv_at hl 1 rfl) ?_
  refine lv_aload_n hx hb lx_d_760 rfl (lv_at hl 3 rfl) ?_
  refine lv_iload_n hx hb lx_d_761 rfl (lv_at hl 0 rfl) ?_
  refine lv_iconst (v := 1) hx hb lx_d_762 (by decide) ?_
  refine lv_iadd hx hb lx_d_763 ?_
  refine va_sld hx hb hX hbl hbA w.2.2 hv.1 lx_d_764 ?_
  refine lv_aload_n hx hb lx_d_765 rfl (lv_at hl 3 rfl) ?_
  refine lv_iload_n hx hb lx_d_766 rfl (lv_at hl 0 rfl) ?_
  refine lv_iconst (v := 2) hx hb lx_d_767 (by decide) ?_
  refine lv_iadd hx hb lx_d_768 ?_
  refine va_sld hx hb hX hbl hbA w.2.2 hv.2.1 lx_d_769 ?_
  refine lx_cM (rest := [.int r]) hx hb hml hown hts F w c2 rfl lx_m_truly_w.1 lx_m_truly_w.2.1 lx_m_truly_w.2.2.1 lx_m_truly_w.2.2.2 lx_m_truly_c lx_m_truly_y ⟨(Nat.le_of_ble_eq_true rfl), (Nat.le_of_ble_eq_true rfl)⟩ hcs hl.1 rfl (Nat.le_of_ble_eq_true rfl) rfl lx_d_770 (fun H locs w => ?_)
  exact lv_icmp_eq (tgt := 1366) hx hb lx_d_773 (by decide) (fun _ => kk _ _ _ _ hR2 w) (fun q => absurd rfl q)
theorem lx_c_guessed_w : Cond.methodLink R_law 92 y_Club_guessed ∈ lw_tbl ∧ Cond.instanceMethod y_Club_guessed ∈ lw_tbl ∧ Cond.selects y_Club_guessed.cls y_Club_guessed y_Club_guessed ∈ lw_tbl ∧ Cond.initialized y_Club_guessed.cls ∈ lw_tbl := ⟨List.mem_of_getElem? (i := 983) (by decide +kernel), List.mem_of_getElem? (i := 984) (by decide +kernel), List.mem_of_getElem? (i := 985) (by decide +kernel), List.mem_of_getElem? (i := 83) (by decide +kernel)⟩
theorem lx_c_guessed_c : Cond.code y_Club_guessed prog_1_method_22_code 3 (some .int) ∈ am_T := am_in 986 (by decide +kernel) (by decide +kernel)
theorem lx_c_guessed_y : y_Club_guessed.cls ≠ "java/lang/invoke/MethodHandle" ∧ y_Club_guessed.cls ≠ "java/lang/invoke/VarHandle" ∧ (parseMethodDescriptor y_Club_guessed.desc).map (fun d => d.parameters.length) = some 1 := ⟨by decide +kernel, by decide +kernel, by decide +kernel⟩
theorem lx_m_guessed_w : Cond.methodLink R_law 95 y_Model_guessed ∈ lw_tbl ∧ Cond.instanceMethod y_Model_guessed ∈ lw_tbl ∧ Cond.selects y_Model_guessed.cls y_Model_guessed y_Model_guessed ∈ lw_tbl ∧ Cond.initialized y_Model_guessed.cls ∈ lw_tbl := ⟨List.mem_of_getElem? (i := 1691) (by decide +kernel), List.mem_of_getElem? (i := 1692) (by decide +kernel), List.mem_of_getElem? (i := 1693) (by decide +kernel), List.mem_of_getElem? (i := 94) (by decide +kernel)⟩
theorem lx_m_guessed_c : Cond.code y_Model_guessed prog_12_method_65_code 5 (some .int) ∈ am_T := am_in 1694 (by decide +kernel) (by decide +kernel)
theorem lx_m_guessed_y : y_Model_guessed.cls ≠ "java/lang/invoke/MethodHandle" ∧ y_Model_guessed.cls ≠ "java/lang/invoke/VarHandle" ∧ (parseMethodDescriptor y_Model_guessed.desc).map (fun d => d.parameters.length) = some 1 := ⟨by decide +kernel, by decide +kernel, by decide +kernel⟩
theorem lx_s18 (C0 : lw_At p s m0 meth c b L xs) (F : lx_F s D g adx adm) (hR : Rel x m) (w : lx_W s D g adx adm H locs x m) (hv : lx_in i3 L) (hcs : cells ≤ room_1.cells ∧ slots ≤ room_1.slots) (hl : lv_has ls 4 [(3, .int i3), (2, .ref (adm 0)), (1, .ref (adx 0)), (0, .ref b)]) (kk : lx_K1 p l e s m0 b below meth c D g adx adm cells slots ls Q) : W p l e room_1 s m0 #[.ref b] below meth c H locs cells slots Q (F0 m0 778 ls []) := by
  obtain ⟨hx, hb, hr, hml, hown, hts, hX, hbl, hlocks, hgv⟩ := C0
  have hbA : ¬ (fun q : Nat => s.heap.size ≤ q) b := Nat.not_le.mpr hbl
  obtain ⟨r, xx, mm, hR2, c1, c2⟩ := P_guessed hR (xs (i3 + 1).toNatClampNeg)
  refine lv_aload_n hx hb lx_d_778 rfl (lv_at hl 2 rfl) ?_
  refine lv_aload_n hx hb lx_d_779 rfl (lv_at hl 3 rfl) ?_
  refine lv_iload_n hx hb lx_d_780 rfl (lv_at hl 0 rfl) ?_
  refine lv_iconst (v := 1) hx hb lx_d_781 (by decide) ?_
  refine lv_iadd hx hb lx_d_782 ?_
  refine va_sld hx hb hX hbl hbA w.2.2 hv.1 lx_d_783 ?_
  refine lx_cX (rest := []) hx hb hml hown hts F w c1 rfl lx_c_guessed_w.1 lx_c_guessed_w.2.1 lx_c_guessed_w.2.2.1 lx_c_guessed_w.2.2.2 lx_c_guessed_c lx_c_guessed_y ⟨(Nat.le_of_ble_eq_true rfl), (Nat.le_of_ble_eq_true rfl)⟩ hcs hl.1 rfl (Nat.le_of_ble_eq_true rfl) rfl lx_d_784 (fun H locs w => ?_)
  refine lv_aload_n hx hb lx_d_787 rfl (lv_at hl 1 rfl) ?_
  refine lv_aload_n hx hb lx_d_788 rfl (lv_at hl 3 rfl) ?_
  refine lv_iload_n hx hb lx_d_789 rfl (lv_at hl 0 rfl) ?_
  refine lv_iconst (v := 1) hx hb lx_d_790 (by decide) ?_
  refine lv_iadd hx hb lx_d_791 ?_
  refine va_sld hx hb hX hbl hbA w.2.2 hv.1 lx_d_792 ?_
  refine lx_cM (rest := [.int r]) hx hb hml hown hts F w c2 rfl lx_m_guessed_w.1 lx_m_guessed_w.2.1 lx_m_guessed_w.2.2.1 lx_m_guessed_w.2.2.2 lx_m_guessed_c lx_m_guessed_y ⟨(Nat.le_of_ble_eq_true rfl), (Nat.le_of_ble_eq_true rfl)⟩ hcs hl.1 rfl (Nat.le_of_ble_eq_true rfl) rfl lx_d_793 (fun H locs w => ?_)
  exact lv_icmp_eq (tgt := 1366) hx hb lx_d_796 (by decide) (fun _ => kk _ _ _ _ hR2 w) (fun q => absurd rfl q)
theorem lx_c_drawn_w : Cond.methodLink R_law 96 y_Club_drawn ∈ lw_tbl ∧ Cond.instanceMethod y_Club_drawn ∈ lw_tbl ∧ Cond.selects y_Club_drawn.cls y_Club_drawn y_Club_drawn ∈ lw_tbl ∧ Cond.initialized y_Club_drawn.cls ∈ lw_tbl := ⟨List.mem_of_getElem? (i := 993) (by decide +kernel), List.mem_of_getElem? (i := 994) (by decide +kernel), List.mem_of_getElem? (i := 995) (by decide +kernel), List.mem_of_getElem? (i := 83) (by decide +kernel)⟩
theorem lx_c_drawn_c : Cond.code y_Club_drawn prog_1_method_23_code 7 (some .int) ∈ am_T := am_in 996 (by decide +kernel) (by decide +kernel)
theorem lx_c_drawn_y : y_Club_drawn.cls ≠ "java/lang/invoke/MethodHandle" ∧ y_Club_drawn.cls ≠ "java/lang/invoke/VarHandle" ∧ (parseMethodDescriptor y_Club_drawn.desc).map (fun d => d.parameters.length) = some 3 := ⟨by decide +kernel, by decide +kernel, by decide +kernel⟩
theorem lx_m_drawn_w : Cond.methodLink R_law 99 y_Model_drawn ∈ lw_tbl ∧ Cond.instanceMethod y_Model_drawn ∈ lw_tbl ∧ Cond.selects y_Model_drawn.cls y_Model_drawn y_Model_drawn ∈ lw_tbl ∧ Cond.initialized y_Model_drawn.cls ∈ lw_tbl := ⟨List.mem_of_getElem? (i := 1695) (by decide +kernel), List.mem_of_getElem? (i := 1696) (by decide +kernel), List.mem_of_getElem? (i := 1697) (by decide +kernel), List.mem_of_getElem? (i := 94) (by decide +kernel)⟩
theorem lx_m_drawn_c : Cond.code y_Model_drawn prog_12_method_69_code 10 (some .int) ∈ am_T := am_in 1698 (by decide +kernel) (by decide +kernel)
theorem lx_m_drawn_y : y_Model_drawn.cls ≠ "java/lang/invoke/MethodHandle" ∧ y_Model_drawn.cls ≠ "java/lang/invoke/VarHandle" ∧ (parseMethodDescriptor y_Model_drawn.desc).map (fun d => d.parameters.length) = some 3 := ⟨by decide +kernel, by decide +kernel, by decide +kernel⟩
theorem lx_s19 (C0 : lw_At p s m0 meth c b L xs) (F : lx_F s D g adx adm) (hR : Rel x m) (w : lx_W s D g adx adm H locs x m) (hv : lx_in i3 L) (hcs : cells ≤ room_1.cells ∧ slots ≤ room_1.slots) (hl : lv_has ls 4 [(3, .int i3), (2, .ref (adm 0)), (1, .ref (adx 0)), (0, .ref b)]) (kk : lx_K1 p l e s m0 b below meth c D g adx adm cells slots ls Q) : W p l e room_1 s m0 #[.ref b] below meth c H locs cells slots Q (F0 m0 801 ls []) := by
  obtain ⟨hx, hb, hr, hml, hown, hts, hX, hbl, hlocks, hgv⟩ := C0
  have hbA : ¬ (fun q : Nat => s.heap.size ≤ q) b := Nat.not_le.mpr hbl
  obtain ⟨r, xx, mm, hR2, c1, c2⟩ := P_drawn hR (xs (i3 + 1).toNatClampNeg) (xs (i3 + 2).toNatClampNeg) (xs (i3 + 3).toNatClampNeg)
  refine lv_aload_n hx hb lx_d_801 rfl (lv_at hl 2 rfl) ?_
  refine lv_aload_n hx hb lx_d_802 rfl (lv_at hl 3 rfl) ?_
  refine lv_iload_n hx hb lx_d_803 rfl (lv_at hl 0 rfl) ?_
  refine lv_iconst (v := 1) hx hb lx_d_804 (by decide) ?_
  refine lv_iadd hx hb lx_d_805 ?_
  refine va_sld hx hb hX hbl hbA w.2.2 hv.1 lx_d_806 ?_
  refine lv_aload_n hx hb lx_d_807 rfl (lv_at hl 3 rfl) ?_
  refine lv_iload_n hx hb lx_d_808 rfl (lv_at hl 0 rfl) ?_
  refine lv_iconst (v := 2) hx hb lx_d_809 (by decide) ?_
  refine lv_iadd hx hb lx_d_810 ?_
  refine va_sld hx hb hX hbl hbA w.2.2 hv.2.1 lx_d_811 ?_
  refine lv_aload_n hx hb lx_d_812 rfl (lv_at hl 3 rfl) ?_
  refine lv_iload_n hx hb lx_d_813 rfl (lv_at hl 0 rfl) ?_
  refine lv_iconst (v := 3) hx hb lx_d_814 (by decide) ?_
  refine lv_iadd hx hb lx_d_815 ?_
  refine va_sld hx hb hX hbl hbA w.2.2 hv.2.2.1 lx_d_816 ?_
  refine lx_cX (rest := []) hx hb hml hown hts F w c1 rfl lx_c_drawn_w.1 lx_c_drawn_w.2.1 lx_c_drawn_w.2.2.1 lx_c_drawn_w.2.2.2 lx_c_drawn_c lx_c_drawn_y ⟨(Nat.le_of_ble_eq_true rfl), (Nat.le_of_ble_eq_true rfl)⟩ hcs hl.1 rfl (Nat.le_of_ble_eq_true rfl) rfl lx_d_817 (fun H locs w => ?_)
  refine lv_aload_n hx hb lx_d_820 rfl (lv_at hl 1 rfl) ?_
  refine lv_aload_n hx hb lx_d_821 rfl (lv_at hl 3 rfl) ?_
  refine lv_iload_n hx hb lx_d_822 rfl (lv_at hl 0 rfl) ?_
  refine lv_iconst (v := 1) hx hb lx_d_823 (by decide) ?_
  refine lv_iadd hx hb lx_d_824 ?_
  refine va_sld hx hb hX hbl hbA w.2.2 hv.1 lx_d_825 ?_
  refine lv_aload_n hx hb lx_d_826 rfl (lv_at hl 3 rfl) ?_
  refine lv_iload_n hx hb lx_d_827 rfl (lv_at hl 0 rfl) ?_
  refine lv_iconst (v := 2) hx hb lx_d_828 (by decide) ?_
  refine lv_iadd hx hb lx_d_829 ?_
  refine va_sld hx hb hX hbl hbA w.2.2 hv.2.1 lx_d_830 ?_
  refine lv_aload_n hx hb lx_d_831 rfl (lv_at hl 3 rfl) ?_
  refine lv_iload_n hx hb lx_d_832 rfl (lv_at hl 0 rfl) ?_
  refine lv_iconst (v := 3) hx hb lx_d_833 (by decide) ?_
  refine lv_iadd hx hb lx_d_834 ?_
  refine va_sld hx hb hX hbl hbA w.2.2 hv.2.2.1 lx_d_835 ?_
  refine lx_cM (rest := [.int r]) hx hb hml hown hts F w c2 rfl lx_m_drawn_w.1 lx_m_drawn_w.2.1 lx_m_drawn_w.2.2.1 lx_m_drawn_w.2.2.2 lx_m_drawn_c lx_m_drawn_y ⟨(Nat.le_of_ble_eq_true rfl), (Nat.le_of_ble_eq_true rfl)⟩ hcs hl.1 rfl (Nat.le_of_ble_eq_true rfl) rfl lx_d_836 (fun H locs w => ?_)
  exact lv_icmp_eq (tgt := 1366) hx hb lx_d_839 (by decide) (fun _ => kk _ _ _ _ hR2 w) (fun q => absurd rfl q)
theorem lx_c_hit_w : Cond.methodLink R_law 100 y_Club_hit ∈ lw_tbl ∧ Cond.instanceMethod y_Club_hit ∈ lw_tbl ∧ Cond.selects y_Club_hit.cls y_Club_hit y_Club_hit ∈ lw_tbl ∧ Cond.initialized y_Club_hit.cls ∈ lw_tbl := ⟨List.mem_of_getElem? (i := 1051) (by decide +kernel), List.mem_of_getElem? (i := 1052) (by decide +kernel), List.mem_of_getElem? (i := 1053) (by decide +kernel), List.mem_of_getElem? (i := 83) (by decide +kernel)⟩
theorem lx_c_hit_c : Cond.code y_Club_hit prog_1_method_25_code 3 (some .int) ∈ am_T := am_in 1054 (by decide +kernel) (by decide +kernel)
theorem lx_c_hit_y : y_Club_hit.cls ≠ "java/lang/invoke/MethodHandle" ∧ y_Club_hit.cls ≠ "java/lang/invoke/VarHandle" ∧ (parseMethodDescriptor y_Club_hit.desc).map (fun d => d.parameters.length) = some 2 := ⟨by decide +kernel, by decide +kernel, by decide +kernel⟩
theorem lx_m_hit_w : Cond.methodLink R_law 103 y_Model_hit ∈ lw_tbl ∧ Cond.instanceMethod y_Model_hit ∈ lw_tbl ∧ Cond.selects y_Model_hit.cls y_Model_hit y_Model_hit ∈ lw_tbl ∧ Cond.initialized y_Model_hit.cls ∈ lw_tbl := ⟨List.mem_of_getElem? (i := 1713) (by decide +kernel), List.mem_of_getElem? (i := 1714) (by decide +kernel), List.mem_of_getElem? (i := 1715) (by decide +kernel), List.mem_of_getElem? (i := 94) (by decide +kernel)⟩
theorem lx_m_hit_c : Cond.code y_Model_hit prog_12_method_70_code 4 (some .int) ∈ am_T := am_in 1716 (by decide +kernel) (by decide +kernel)
theorem lx_m_hit_y : y_Model_hit.cls ≠ "java/lang/invoke/MethodHandle" ∧ y_Model_hit.cls ≠ "java/lang/invoke/VarHandle" ∧ (parseMethodDescriptor y_Model_hit.desc).map (fun d => d.parameters.length) = some 2 := ⟨by decide +kernel, by decide +kernel, by decide +kernel⟩
theorem lx_s20 (C0 : lw_At p s m0 meth c b L xs) (F : lx_F s D g adx adm) (hR : Rel x m) (w : lx_W s D g adx adm H locs x m) (hv : lx_in i3 L) (hcs : cells ≤ room_1.cells ∧ slots ≤ room_1.slots) (hl : lv_has ls 4 [(3, .int i3), (2, .ref (adm 0)), (1, .ref (adx 0)), (0, .ref b)]) (kk : lx_K1 p l e s m0 b below meth c D g adx adm cells slots ls Q) : W p l e room_1 s m0 #[.ref b] below meth c H locs cells slots Q (F0 m0 844 ls []) := by
  obtain ⟨hx, hb, hr, hml, hown, hts, hX, hbl, hlocks, hgv⟩ := C0
  have hbA : ¬ (fun q : Nat => s.heap.size ≤ q) b := Nat.not_le.mpr hbl
  obtain ⟨r, xx, mm, hR2, c1, c2⟩ := P_hit hR (xs (i3 + 1).toNatClampNeg) (xs (i3 + 2).toNatClampNeg)
  refine lv_aload_n hx hb lx_d_844 rfl (lv_at hl 2 rfl) ?_
  refine lv_aload_n hx hb lx_d_845 rfl (lv_at hl 3 rfl) ?_
  refine lv_iload_n hx hb lx_d_846 rfl (lv_at hl 0 rfl) ?_
  refine lv_iconst (v := 1) hx hb lx_d_847 (by decide) ?_
  refine lv_iadd hx hb lx_d_848 ?_
  refine va_sld hx hb hX hbl hbA w.2.2 hv.1 lx_d_849 ?_
  refine lv_aload_n hx hb lx_d_850 rfl (lv_at hl 3 rfl) ?_
  refine lv_iload_n hx hb lx_d_851 rfl (lv_at hl 0 rfl) ?_
  refine lv_iconst (v := 2) hx hb lx_d_852 (by decide) ?_
  refine lv_iadd hx hb lx_d_853 ?_
  refine va_sld hx hb hX hbl hbA w.2.2 hv.2.1 lx_d_854 ?_
  refine lx_cX (rest := []) hx hb hml hown hts F w c1 rfl lx_c_hit_w.1 lx_c_hit_w.2.1 lx_c_hit_w.2.2.1 lx_c_hit_w.2.2.2 lx_c_hit_c lx_c_hit_y ⟨(Nat.le_of_ble_eq_true rfl), (Nat.le_of_ble_eq_true rfl)⟩ hcs hl.1 rfl (Nat.le_of_ble_eq_true rfl) rfl lx_d_855 (fun H locs w => ?_)
  refine lv_aload_n hx hb lx_d_858 rfl (lv_at hl 1 rfl) ?_
  refine lv_aload_n hx hb lx_d_859 rfl (lv_at hl 3 rfl) ?_
  refine lv_iload_n hx hb lx_d_860 rfl (lv_at hl 0 rfl) ?_
  refine lv_iconst (v := 1) hx hb lx_d_861 (by decide) ?_
  refine lv_iadd hx hb lx_d_862 ?_
  refine va_sld hx hb hX hbl hbA w.2.2 hv.1 lx_d_863 ?_
  refine lv_aload_n hx hb lx_d_864 rfl (lv_at hl 3 rfl) ?_
  refine lv_iload_n hx hb lx_d_865 rfl (lv_at hl 0 rfl) ?_
  refine lv_iconst (v := 2) hx hb lx_d_866 (by decide) ?_
  refine lv_iadd hx hb lx_d_867 ?_
  refine va_sld hx hb hX hbl hbA w.2.2 hv.2.1 lx_d_868 ?_
  refine lx_cM (rest := [.int r]) hx hb hml hown hts F w c2 rfl lx_m_hit_w.1 lx_m_hit_w.2.1 lx_m_hit_w.2.2.1 lx_m_hit_w.2.2.2 lx_m_hit_c lx_m_hit_y ⟨(Nat.le_of_ble_eq_true rfl), (Nat.le_of_ble_eq_true rfl)⟩ hcs hl.1 rfl (Nat.le_of_ble_eq_true rfl) rfl lx_d_869 (fun H locs w => ?_)
  exact lv_icmp_eq (tgt := 1366) hx hb lx_d_872 (by decide) (fun _ => kk _ _ _ _ hR2 w) (fun q => absurd rfl q)
theorem lx_c_putt_w : Cond.methodLink R_law 104 y_Club_putt ∈ lw_tbl ∧ Cond.instanceMethod y_Club_putt ∈ lw_tbl ∧ Cond.selects y_Club_putt.cls y_Club_putt y_Club_putt ∈ lw_tbl ∧ Cond.initialized y_Club_putt.cls ∈ lw_tbl := ⟨List.mem_of_getElem? (i := 1062) (by decide +kernel), List.mem_of_getElem? (i := 1063) (by decide +kernel), List.mem_of_getElem? (i := 1064) (by decide +kernel), List.mem_of_getElem? (i := 83) (by decide +kernel)⟩
theorem lx_c_putt_c : Cond.code y_Club_putt prog_1_method_26_code 2 (some .int) ∈ am_T := am_in 1065 (by decide +kernel) (by decide +kernel)
theorem lx_c_putt_y : y_Club_putt.cls ≠ "java/lang/invoke/MethodHandle" ∧ y_Club_putt.cls ≠ "java/lang/invoke/VarHandle" ∧ (parseMethodDescriptor y_Club_putt.desc).map (fun d => d.parameters.length) = some 1 := ⟨by decide +kernel, by decide +kernel, by decide +kernel⟩
theorem lx_m_putt_w : Cond.methodLink R_law 107 y_Model_putt ∈ lw_tbl ∧ Cond.instanceMethod y_Model_putt ∈ lw_tbl ∧ Cond.selects y_Model_putt.cls y_Model_putt y_Model_putt ∈ lw_tbl ∧ Cond.initialized y_Model_putt.cls ∈ lw_tbl := ⟨List.mem_of_getElem? (i := 1717) (by decide +kernel), List.mem_of_getElem? (i := 1718) (by decide +kernel), List.mem_of_getElem? (i := 1719) (by decide +kernel), List.mem_of_getElem? (i := 94) (by decide +kernel)⟩
theorem lx_m_putt_c : Cond.code y_Model_putt prog_12_method_71_code 4 (some .int) ∈ am_T := am_in 1720 (by decide +kernel) (by decide +kernel)
theorem lx_m_putt_y : y_Model_putt.cls ≠ "java/lang/invoke/MethodHandle" ∧ y_Model_putt.cls ≠ "java/lang/invoke/VarHandle" ∧ (parseMethodDescriptor y_Model_putt.desc).map (fun d => d.parameters.length) = some 1 := ⟨by decide +kernel, by decide +kernel, by decide +kernel⟩
theorem lx_s21 (C0 : lw_At p s m0 meth c b L xs) (F : lx_F s D g adx adm) (hR : Rel x m) (w : lx_W s D g adx adm H locs x m) (hv : lx_in i3 L) (hcs : cells ≤ room_1.cells ∧ slots ≤ room_1.slots) (hl : lv_has ls 4 [(3, .int i3), (2, .ref (adm 0)), (1, .ref (adx 0)), (0, .ref b)]) (kk : lx_K1 p l e s m0 b below meth c D g adx adm cells slots ls Q) : W p l e room_1 s m0 #[.ref b] below meth c H locs cells slots Q (F0 m0 877 ls []) := by
  obtain ⟨hx, hb, hr, hml, hown, hts, hX, hbl, hlocks, hgv⟩ := C0
  have hbA : ¬ (fun q : Nat => s.heap.size ≤ q) b := Nat.not_le.mpr hbl
  obtain ⟨r, xx, mm, hR2, c1, c2⟩ := P_putt hR (xs (i3 + 1).toNatClampNeg)
  refine lv_aload_n hx hb lx_d_877 rfl (lv_at hl 2 rfl) ?_
  refine lv_aload_n hx hb lx_d_878 rfl (lv_at hl 3 rfl) ?_
  refine lv_iload_n hx hb lx_d_879 rfl (lv_at hl 0 rfl) ?_
  refine lv_iconst (v := 1) hx hb lx_d_880 (by decide) ?_
  refine lv_iadd hx hb lx_d_881 ?_
  refine va_sld hx hb hX hbl hbA w.2.2 hv.1 lx_d_882 ?_
  refine lx_cX (rest := []) hx hb hml hown hts F w c1 rfl lx_c_putt_w.1 lx_c_putt_w.2.1 lx_c_putt_w.2.2.1 lx_c_putt_w.2.2.2 lx_c_putt_c lx_c_putt_y ⟨(Nat.le_of_ble_eq_true rfl), (Nat.le_of_ble_eq_true rfl)⟩ hcs hl.1 rfl (Nat.le_of_ble_eq_true rfl) rfl lx_d_883 (fun H locs w => ?_)
  refine lv_aload_n hx hb lx_d_886 rfl (lv_at hl 1 rfl) ?_
  refine lv_aload_n hx hb lx_d_887 rfl (lv_at hl 3 rfl) ?_
  refine lv_iload_n hx hb lx_d_888 rfl (lv_at hl 0 rfl) ?_
  refine lv_iconst (v := 1) hx hb lx_d_889 (by decide) ?_
  refine lv_iadd hx hb lx_d_890 ?_
  refine va_sld hx hb hX hbl hbA w.2.2 hv.1 lx_d_891 ?_
  refine lx_cM (rest := [.int r]) hx hb hml hown hts F w c2 rfl lx_m_putt_w.1 lx_m_putt_w.2.1 lx_m_putt_w.2.2.1 lx_m_putt_w.2.2.2 lx_m_putt_c lx_m_putt_y ⟨(Nat.le_of_ble_eq_true rfl), (Nat.le_of_ble_eq_true rfl)⟩ hcs hl.1 rfl (Nat.le_of_ble_eq_true rfl) rfl lx_d_892 (fun H locs w => ?_)
  exact lv_icmp_eq (tgt := 1366) hx hb lx_d_895 (by decide) (fun _ => kk _ _ _ _ hR2 w) (fun q => absurd rfl q)
theorem lx_c_led_w : Cond.methodLink R_law 108 y_Club_led ∈ lw_tbl ∧ Cond.instanceMethod y_Club_led ∈ lw_tbl ∧ Cond.selects y_Club_led.cls y_Club_led y_Club_led ∈ lw_tbl ∧ Cond.initialized y_Club_led.cls ∈ lw_tbl := ⟨List.mem_of_getElem? (i := 1071) (by decide +kernel), List.mem_of_getElem? (i := 1072) (by decide +kernel), List.mem_of_getElem? (i := 1073) (by decide +kernel), List.mem_of_getElem? (i := 83) (by decide +kernel)⟩
theorem lx_c_led_c : Cond.code y_Club_led prog_1_method_27_code 2 (some .int) ∈ am_T := am_in 1074 (by decide +kernel) (by decide +kernel)
theorem lx_c_led_y : y_Club_led.cls ≠ "java/lang/invoke/MethodHandle" ∧ y_Club_led.cls ≠ "java/lang/invoke/VarHandle" ∧ (parseMethodDescriptor y_Club_led.desc).map (fun d => d.parameters.length) = some 1 := ⟨by decide +kernel, by decide +kernel, by decide +kernel⟩
theorem lx_m_led_w : Cond.methodLink R_law 111 y_Model_led ∈ lw_tbl ∧ Cond.instanceMethod y_Model_led ∈ lw_tbl ∧ Cond.selects y_Model_led.cls y_Model_led y_Model_led ∈ lw_tbl ∧ Cond.initialized y_Model_led.cls ∈ lw_tbl := ⟨List.mem_of_getElem? (i := 1721) (by decide +kernel), List.mem_of_getElem? (i := 1722) (by decide +kernel), List.mem_of_getElem? (i := 1723) (by decide +kernel), List.mem_of_getElem? (i := 94) (by decide +kernel)⟩
theorem lx_m_led_c : Cond.code y_Model_led prog_12_method_72_code 2 (some .int) ∈ am_T := am_in 1724 (by decide +kernel) (by decide +kernel)
theorem lx_m_led_y : y_Model_led.cls ≠ "java/lang/invoke/MethodHandle" ∧ y_Model_led.cls ≠ "java/lang/invoke/VarHandle" ∧ (parseMethodDescriptor y_Model_led.desc).map (fun d => d.parameters.length) = some 1 := ⟨by decide +kernel, by decide +kernel, by decide +kernel⟩
theorem lx_s22 (C0 : lw_At p s m0 meth c b L xs) (F : lx_F s D g adx adm) (hR : Rel x m) (w : lx_W s D g adx adm H locs x m) (hv : lx_in i3 L) (hcs : cells ≤ room_1.cells ∧ slots ≤ room_1.slots) (hl : lv_has ls 4 [(3, .int i3), (2, .ref (adm 0)), (1, .ref (adx 0)), (0, .ref b)]) (kk : lx_K1 p l e s m0 b below meth c D g adx adm cells slots ls Q) : W p l e room_1 s m0 #[.ref b] below meth c H locs cells slots Q (F0 m0 900 ls []) := by
  obtain ⟨hx, hb, hr, hml, hown, hts, hX, hbl, hlocks, hgv⟩ := C0
  have hbA : ¬ (fun q : Nat => s.heap.size ≤ q) b := Nat.not_le.mpr hbl
  obtain ⟨r, xx, mm, hR2, c1, c2⟩ := P_led hR (xs (i3 + 1).toNatClampNeg)
  refine lv_aload_n hx hb lx_d_900 rfl (lv_at hl 2 rfl) ?_
  refine lv_aload_n hx hb lx_d_901 rfl (lv_at hl 3 rfl) ?_
  refine lv_iload_n hx hb lx_d_902 rfl (lv_at hl 0 rfl) ?_
  refine lv_iconst (v := 1) hx hb lx_d_903 (by decide) ?_
  refine lv_iadd hx hb lx_d_904 ?_
  refine va_sld hx hb hX hbl hbA w.2.2 hv.1 lx_d_905 ?_
  refine lx_cX (rest := []) hx hb hml hown hts F w c1 rfl lx_c_led_w.1 lx_c_led_w.2.1 lx_c_led_w.2.2.1 lx_c_led_w.2.2.2 lx_c_led_c lx_c_led_y ⟨(Nat.le_of_ble_eq_true rfl), (Nat.le_of_ble_eq_true rfl)⟩ hcs hl.1 rfl (Nat.le_of_ble_eq_true rfl) rfl lx_d_906 (fun H locs w => ?_)
  refine lv_aload_n hx hb lx_d_909 rfl (lv_at hl 1 rfl) ?_
  refine lv_aload_n hx hb lx_d_910 rfl (lv_at hl 3 rfl) ?_
  refine lv_iload_n hx hb lx_d_911 rfl (lv_at hl 0 rfl) ?_
  refine lv_iconst (v := 1) hx hb lx_d_912 (by decide) ?_
  refine lv_iadd hx hb lx_d_913 ?_
  refine va_sld hx hb hX hbl hbA w.2.2 hv.1 lx_d_914 ?_
  refine lx_cM (rest := [.int r]) hx hb hml hown hts F w c2 rfl lx_m_led_w.1 lx_m_led_w.2.1 lx_m_led_w.2.2.1 lx_m_led_w.2.2.2 lx_m_led_c lx_m_led_y ⟨(Nat.le_of_ble_eq_true rfl), (Nat.le_of_ble_eq_true rfl)⟩ hcs hl.1 rfl (Nat.le_of_ble_eq_true rfl) rfl lx_d_915 (fun H locs w => ?_)
  exact lv_icmp_eq (tgt := 1366) hx hb lx_d_918 (by decide) (fun _ => kk _ _ _ _ hR2 w) (fun q => absurd rfl q)
theorem lx_c_image_w : Cond.methodLink R_law 112 y_Club_image ∈ lw_tbl ∧ Cond.instanceMethod y_Club_image ∈ lw_tbl ∧ Cond.selects y_Club_image.cls y_Club_image y_Club_image ∈ lw_tbl ∧ Cond.initialized y_Club_image.cls ∈ lw_tbl := ⟨List.mem_of_getElem? (i := 1079) (by decide +kernel), List.mem_of_getElem? (i := 1080) (by decide +kernel), List.mem_of_getElem? (i := 1081) (by decide +kernel), List.mem_of_getElem? (i := 83) (by decide +kernel)⟩
theorem lx_c_image_c : Cond.code y_Club_image prog_1_method_28_code 1 (some .int) ∈ am_T := am_in 1082 (by decide +kernel) (by decide +kernel)
theorem lx_c_image_y : y_Club_image.cls ≠ "java/lang/invoke/MethodHandle" ∧ y_Club_image.cls ≠ "java/lang/invoke/VarHandle" ∧ (parseMethodDescriptor y_Club_image.desc).map (fun d => d.parameters.length) = some 0 := ⟨by decide +kernel, by decide +kernel, by decide +kernel⟩
theorem lx_m_image_w : Cond.methodLink R_law 115 y_Model_image ∈ lw_tbl ∧ Cond.instanceMethod y_Model_image ∈ lw_tbl ∧ Cond.selects y_Model_image.cls y_Model_image y_Model_image ∈ lw_tbl ∧ Cond.initialized y_Model_image.cls ∈ lw_tbl := ⟨List.mem_of_getElem? (i := 1725) (by decide +kernel), List.mem_of_getElem? (i := 1726) (by decide +kernel), List.mem_of_getElem? (i := 1727) (by decide +kernel), List.mem_of_getElem? (i := 94) (by decide +kernel)⟩
theorem lx_m_image_c : Cond.code y_Model_image prog_12_method_73_code 2 (some .int) ∈ am_T := am_in 1728 (by decide +kernel) (by decide +kernel)
theorem lx_m_image_y : y_Model_image.cls ≠ "java/lang/invoke/MethodHandle" ∧ y_Model_image.cls ≠ "java/lang/invoke/VarHandle" ∧ (parseMethodDescriptor y_Model_image.desc).map (fun d => d.parameters.length) = some 0 := ⟨by decide +kernel, by decide +kernel, by decide +kernel⟩
theorem lx_s23 (C0 : lw_At p s m0 meth c b L xs) (F : lx_F s D g adx adm) (hR : Rel x m) (w : lx_W s D g adx adm H locs x m) (hv : lx_in i3 L) (hcs : cells ≤ room_1.cells ∧ slots ≤ room_1.slots) (hl : lv_has ls 4 [(3, .int i3), (2, .ref (adm 0)), (1, .ref (adx 0)), (0, .ref b)]) (kk : lx_K1 p l e s m0 b below meth c D g adx adm cells slots ls Q) : W p l e room_1 s m0 #[.ref b] below meth c H locs cells slots Q (F0 m0 923 ls []) := by
  obtain ⟨hx, hb, hr, hml, hown, hts, hX, hbl, hlocks, hgv⟩ := C0
  have hbA : ¬ (fun q : Nat => s.heap.size ≤ q) b := Nat.not_le.mpr hbl
  obtain ⟨r, xx, mm, hR2, c1, c2⟩ := P_image hR
  refine lv_aload_n hx hb lx_d_923 rfl (lv_at hl 2 rfl) ?_
  refine lx_cX (rest := []) hx hb hml hown hts F w c1 rfl lx_c_image_w.1 lx_c_image_w.2.1 lx_c_image_w.2.2.1 lx_c_image_w.2.2.2 lx_c_image_c lx_c_image_y ⟨(Nat.le_of_ble_eq_true rfl), (Nat.le_of_ble_eq_true rfl)⟩ hcs hl.1 rfl (Nat.le_of_ble_eq_true rfl) rfl lx_d_924 (fun H locs w => ?_)
  refine lv_aload_n hx hb lx_d_927 rfl (lv_at hl 1 rfl) ?_
  refine lx_cM (rest := [.int r]) hx hb hml hown hts F w c2 rfl lx_m_image_w.1 lx_m_image_w.2.1 lx_m_image_w.2.2.1 lx_m_image_w.2.2.2 lx_m_image_c lx_m_image_y ⟨(Nat.le_of_ble_eq_true rfl), (Nat.le_of_ble_eq_true rfl)⟩ hcs hl.1 rfl (Nat.le_of_ble_eq_true rfl) rfl lx_d_928 (fun H locs w => ?_)
  exact lv_icmp_eq (tgt := 1366) hx hb lx_d_931 (by decide) (fun _ => kk _ _ _ _ hR2 w) (fun q => absurd rfl q)
end Lc
