/-! the cases of the law (by gen72.py) -/
section Lc
variable {p : Program} {l : Launch} {e : Env} {s : State} {m0 : MethodId} {below : List Frame} {meth : Method} {c : Code} {H : Heap} {locs : List Loc} {cells slots : Nat} {ls : Array Slot} {Q : State → Prop} {D : va_G} {g : am_G} {adx adm : Nat → Nat} {x m : am_H} {b L : Nat} {xs : Nat → Int32} {i3 : Int32}
theorem lx_c_back_w : Cond.methodLink R_law 116 y_Club_back ∈ lw_tbl ∧ Cond.instanceMethod y_Club_back ∈ lw_tbl ∧ Cond.selects y_Club_back.cls y_Club_back y_Club_back ∈ lw_tbl ∧ Cond.initialized y_Club_back.cls ∈ lw_tbl := ⟨List.mem_of_getElem? (i := 1088) (by decide +kernel), List.mem_of_getElem? (i := 1089) (by decide +kernel), List.mem_of_getElem? (i := 1090) (by decide +kernel), List.mem_of_getElem? (i := 83) (by decide +kernel)⟩
theorem lx_c_back_c : Cond.code y_Club_back prog_1_method_29_code 1 (some .int) ∈ am_T := am_in 1091 (by decide +kernel) (by decide +kernel)
theorem lx_c_back_y : y_Club_back.cls ≠ "java/lang/invoke/MethodHandle" ∧ y_Club_back.cls ≠ "java/lang/invoke/VarHandle" ∧ (parseMethodDescriptor y_Club_back.desc).map (fun d => d.parameters.length) = some 0 := ⟨by decide +kernel, by decide +kernel, by decide +kernel⟩
theorem lx_m_back_w : Cond.methodLink R_law 119 y_Model_back ∈ lw_tbl ∧ Cond.instanceMethod y_Model_back ∈ lw_tbl ∧ Cond.selects y_Model_back.cls y_Model_back y_Model_back ∈ lw_tbl ∧ Cond.initialized y_Model_back.cls ∈ lw_tbl := ⟨List.mem_of_getElem? (i := 1729) (by decide +kernel), List.mem_of_getElem? (i := 1730) (by decide +kernel), List.mem_of_getElem? (i := 1731) (by decide +kernel), List.mem_of_getElem? (i := 94) (by decide +kernel)⟩
theorem lx_m_back_c : Cond.code y_Model_back prog_12_method_74_code 2 (some .int) ∈ am_T := am_in 1732 (by decide +kernel) (by decide +kernel)
theorem lx_m_back_y : y_Model_back.cls ≠ "java/lang/invoke/MethodHandle" ∧ y_Model_back.cls ≠ "java/lang/invoke/VarHandle" ∧ (parseMethodDescriptor y_Model_back.desc).map (fun d => d.parameters.length) = some 0 := ⟨by decide +kernel, by decide +kernel, by decide +kernel⟩
theorem lx_s24 (C0 : lw_At p s m0 meth c b L xs) (F : lx_F s D g adx adm) (hR : Rel x m) (w : lx_W s D g adx adm H locs x m) (hv : lx_in i3 L) (hcs : cells ≤ room_1.cells ∧ slots ≤ room_1.slots) (hl : lv_has ls 4 [(3, .int i3), (2, .ref (adm 0)), (1, .ref (adx 0)), (0, .ref b)]) (kk : lx_K1 p l e s m0 b below meth c D g adx adm cells slots ls Q) : W p l e room_1 s m0 #[.ref b] below meth c H locs cells slots Q (F0 m0 936 ls []) := by
  obtain ⟨hx, hb, hr, hml, hown, hts, hX, hbl, hlocks, hgv⟩ := C0
  have hbA : ¬ (fun q : Nat => s.heap.size ≤ q) b := Nat.not_le.mpr hbl
  obtain ⟨r, xx, mm, hR2, c1, c2⟩ := P_back hR
  refine lv_aload_n hx hb lx_d_936 rfl (lv_at hl 2 rfl) ?_
  refine lx_cX (rest := []) hx hb hml hown hts F w c1 rfl lx_c_back_w.1 lx_c_back_w.2.1 lx_c_back_w.2.2.1 lx_c_back_w.2.2.2 lx_c_back_c lx_c_back_y ⟨(Nat.le_of_ble_eq_true rfl), (Nat.le_of_ble_eq_true rfl)⟩ hcs hl.1 rfl (Nat.le_of_ble_eq_true rfl) rfl lx_d_937 (fun H locs w => ?_)
  refine lv_aload_n hx hb lx_d_940 rfl (lv_at hl 1 rfl) ?_
  refine lx_cM (rest := [.int r]) hx hb hml hown hts F w c2 rfl lx_m_back_w.1 lx_m_back_w.2.1 lx_m_back_w.2.2.1 lx_m_back_w.2.2.2 lx_m_back_c lx_m_back_y ⟨(Nat.le_of_ble_eq_true rfl), (Nat.le_of_ble_eq_true rfl)⟩ hcs hl.1 rfl (Nat.le_of_ble_eq_true rfl) rfl lx_d_941 (fun H locs w => ?_)
  exact lv_icmp_eq (tgt := 1366) hx hb lx_d_944 (by decide) (fun _ => kk _ _ _ _ hR2 w) (fun q => absurd rfl q)
theorem lx_c_undo_w : Cond.methodLink R_law 120 y_Club_undo ∈ lw_tbl ∧ Cond.instanceMethod y_Club_undo ∈ lw_tbl ∧ Cond.selects y_Club_undo.cls y_Club_undo y_Club_undo ∈ lw_tbl ∧ Cond.initialized y_Club_undo.cls ∈ lw_tbl := ⟨List.mem_of_getElem? (i := 1100) (by decide +kernel), List.mem_of_getElem? (i := 1101) (by decide +kernel), List.mem_of_getElem? (i := 1102) (by decide +kernel), List.mem_of_getElem? (i := 83) (by decide +kernel)⟩
theorem lx_c_undo_c : Cond.code y_Club_undo prog_1_method_30_code 2 (some .int) ∈ am_T := am_in 1103 (by decide +kernel) (by decide +kernel)
theorem lx_c_undo_y : y_Club_undo.cls ≠ "java/lang/invoke/MethodHandle" ∧ y_Club_undo.cls ≠ "java/lang/invoke/VarHandle" ∧ (parseMethodDescriptor y_Club_undo.desc).map (fun d => d.parameters.length) = some 0 := ⟨by decide +kernel, by decide +kernel, by decide +kernel⟩
theorem lx_m_undo_w : Cond.methodLink R_law 123 y_Model_undo ∈ lw_tbl ∧ Cond.instanceMethod y_Model_undo ∈ lw_tbl ∧ Cond.selects y_Model_undo.cls y_Model_undo y_Model_undo ∈ lw_tbl ∧ Cond.initialized y_Model_undo.cls ∈ lw_tbl := ⟨List.mem_of_getElem? (i := 1427) (by decide +kernel), List.mem_of_getElem? (i := 1428) (by decide +kernel), List.mem_of_getElem? (i := 1429) (by decide +kernel), List.mem_of_getElem? (i := 94) (by decide +kernel)⟩
theorem lx_m_undo_c : Cond.code y_Model_undo prog_12_method_5_code 1 (some .int) ∈ am_T := am_in 1430 (by decide +kernel) (by decide +kernel)
theorem lx_m_undo_y : y_Model_undo.cls ≠ "java/lang/invoke/MethodHandle" ∧ y_Model_undo.cls ≠ "java/lang/invoke/VarHandle" ∧ (parseMethodDescriptor y_Model_undo.desc).map (fun d => d.parameters.length) = some 0 := ⟨by decide +kernel, by decide +kernel, by decide +kernel⟩
theorem lx_s25 (C0 : lw_At p s m0 meth c b L xs) (F : lx_F s D g adx adm) (hR : Rel x m) (w : lx_W s D g adx adm H locs x m) (hv : lx_in i3 L) (hcs : cells ≤ room_1.cells ∧ slots ≤ room_1.slots) (hl : lv_has ls 4 [(3, .int i3), (2, .ref (adm 0)), (1, .ref (adx 0)), (0, .ref b)]) (kk : lx_K1 p l e s m0 b below meth c D g adx adm cells slots ls Q) : W p l e room_1 s m0 #[.ref b] below meth c H locs cells slots Q (F0 m0 949 ls []) := by
  obtain ⟨hx, hb, hr, hml, hown, hts, hX, hbl, hlocks, hgv⟩ := C0
  have hbA : ¬ (fun q : Nat => s.heap.size ≤ q) b := Nat.not_le.mpr hbl
  obtain ⟨r, xx, mm, hR2, c1, c2⟩ := P_undo hR
  refine lv_aload_n hx hb lx_d_949 rfl (lv_at hl 2 rfl) ?_
  refine lx_cX (rest := []) hx hb hml hown hts F w c1 rfl lx_c_undo_w.1 lx_c_undo_w.2.1 lx_c_undo_w.2.2.1 lx_c_undo_w.2.2.2 lx_c_undo_c lx_c_undo_y ⟨(Nat.le_of_ble_eq_true rfl), (Nat.le_of_ble_eq_true rfl)⟩ hcs hl.1 rfl (Nat.le_of_ble_eq_true rfl) rfl lx_d_950 (fun H locs w => ?_)
  refine lv_aload_n hx hb lx_d_953 rfl (lv_at hl 1 rfl) ?_
  refine lx_cM (rest := [.int r]) hx hb hml hown hts F w c2 rfl lx_m_undo_w.1 lx_m_undo_w.2.1 lx_m_undo_w.2.2.1 lx_m_undo_w.2.2.2 lx_m_undo_c lx_m_undo_y ⟨(Nat.le_of_ble_eq_true rfl), (Nat.le_of_ble_eq_true rfl)⟩ hcs hl.1 rfl (Nat.le_of_ble_eq_true rfl) rfl lx_d_954 (fun H locs w => ?_)
  exact lv_icmp_eq (tgt := 1366) hx hb lx_d_957 (by decide) (fun _ => kk _ _ _ _ hR2 w) (fun q => absurd rfl q)
theorem lx_c_redo_w : Cond.methodLink R_law 124 y_Club_redo ∈ lw_tbl ∧ Cond.instanceMethod y_Club_redo ∈ lw_tbl ∧ Cond.selects y_Club_redo.cls y_Club_redo y_Club_redo ∈ lw_tbl ∧ Cond.initialized y_Club_redo.cls ∈ lw_tbl := ⟨List.mem_of_getElem? (i := 1127) (by decide +kernel), List.mem_of_getElem? (i := 1128) (by decide +kernel), List.mem_of_getElem? (i := 1129) (by decide +kernel), List.mem_of_getElem? (i := 83) (by decide +kernel)⟩
theorem lx_c_redo_c : Cond.code y_Club_redo prog_1_method_31_code 2 (some .int) ∈ am_T := am_in 1130 (by decide +kernel) (by decide +kernel)
theorem lx_c_redo_y : y_Club_redo.cls ≠ "java/lang/invoke/MethodHandle" ∧ y_Club_redo.cls ≠ "java/lang/invoke/VarHandle" ∧ (parseMethodDescriptor y_Club_redo.desc).map (fun d => d.parameters.length) = some 0 := ⟨by decide +kernel, by decide +kernel, by decide +kernel⟩
theorem lx_m_redo_w : Cond.methodLink R_law 127 y_Model_redo ∈ lw_tbl ∧ Cond.instanceMethod y_Model_redo ∈ lw_tbl ∧ Cond.selects y_Model_redo.cls y_Model_redo y_Model_redo ∈ lw_tbl ∧ Cond.initialized y_Model_redo.cls ∈ lw_tbl := ⟨List.mem_of_getElem? (i := 1431) (by decide +kernel), List.mem_of_getElem? (i := 1432) (by decide +kernel), List.mem_of_getElem? (i := 1433) (by decide +kernel), List.mem_of_getElem? (i := 94) (by decide +kernel)⟩
theorem lx_m_redo_c : Cond.code y_Model_redo prog_12_method_6_code 1 (some .int) ∈ am_T := am_in 1434 (by decide +kernel) (by decide +kernel)
theorem lx_m_redo_y : y_Model_redo.cls ≠ "java/lang/invoke/MethodHandle" ∧ y_Model_redo.cls ≠ "java/lang/invoke/VarHandle" ∧ (parseMethodDescriptor y_Model_redo.desc).map (fun d => d.parameters.length) = some 0 := ⟨by decide +kernel, by decide +kernel, by decide +kernel⟩
theorem lx_s26 (C0 : lw_At p s m0 meth c b L xs) (F : lx_F s D g adx adm) (hR : Rel x m) (w : lx_W s D g adx adm H locs x m) (hv : lx_in i3 L) (hcs : cells ≤ room_1.cells ∧ slots ≤ room_1.slots) (hl : lv_has ls 4 [(3, .int i3), (2, .ref (adm 0)), (1, .ref (adx 0)), (0, .ref b)]) (kk : lx_K1 p l e s m0 b below meth c D g adx adm cells slots ls Q) : W p l e room_1 s m0 #[.ref b] below meth c H locs cells slots Q (F0 m0 962 ls []) := by
  obtain ⟨hx, hb, hr, hml, hown, hts, hX, hbl, hlocks, hgv⟩ := C0
  have hbA : ¬ (fun q : Nat => s.heap.size ≤ q) b := Nat.not_le.mpr hbl
  obtain ⟨r, xx, mm, hR2, c1, c2⟩ := P_redo hR
  refine lv_aload_n hx hb lx_d_962 rfl (lv_at hl 2 rfl) ?_
  refine lx_cX (rest := []) hx hb hml hown hts F w c1 rfl lx_c_redo_w.1 lx_c_redo_w.2.1 lx_c_redo_w.2.2.1 lx_c_redo_w.2.2.2 lx_c_redo_c lx_c_redo_y ⟨(Nat.le_of_ble_eq_true rfl), (Nat.le_of_ble_eq_true rfl)⟩ hcs hl.1 rfl (Nat.le_of_ble_eq_true rfl) rfl lx_d_963 (fun H locs w => ?_)
  refine lv_aload_n hx hb lx_d_966 rfl (lv_at hl 1 rfl) ?_
  refine lx_cM (rest := [.int r]) hx hb hml hown hts F w c2 rfl lx_m_redo_w.1 lx_m_redo_w.2.1 lx_m_redo_w.2.2.1 lx_m_redo_w.2.2.2 lx_m_redo_c lx_m_redo_y ⟨(Nat.le_of_ble_eq_true rfl), (Nat.le_of_ble_eq_true rfl)⟩ hcs hl.1 rfl (Nat.le_of_ble_eq_true rfl) rfl lx_d_967 (fun H locs w => ?_)
  exact lv_icmp_eq (tgt := 1366) hx hb lx_d_970 (by decide) (fun _ => kk _ _ _ _ hR2 w) (fun q => absurd rfl q)
theorem lx_c_body_w : Cond.methodLink R_law 128 y_Club_body ∈ lw_tbl ∧ Cond.instanceMethod y_Club_body ∈ lw_tbl ∧ Cond.selects y_Club_body.cls y_Club_body y_Club_body ∈ lw_tbl ∧ Cond.initialized y_Club_body.cls ∈ lw_tbl := ⟨List.mem_of_getElem? (i := 1143) (by decide +kernel), List.mem_of_getElem? (i := 1144) (by decide +kernel), List.mem_of_getElem? (i := 1145) (by decide +kernel), List.mem_of_getElem? (i := 83) (by decide +kernel)⟩
theorem lx_c_body_c : Cond.code y_Club_body prog_1_method_32_code 2 (some .int) ∈ am_T := am_in 1146 (by decide +kernel) (by decide +kernel)
theorem lx_c_body_y : y_Club_body.cls ≠ "java/lang/invoke/MethodHandle" ∧ y_Club_body.cls ≠ "java/lang/invoke/VarHandle" ∧ (parseMethodDescriptor y_Club_body.desc).map (fun d => d.parameters.length) = some 1 := ⟨by decide +kernel, by decide +kernel, by decide +kernel⟩
theorem lx_m_body_w : Cond.methodLink R_law 131 y_Model_body ∈ lw_tbl ∧ Cond.instanceMethod y_Model_body ∈ lw_tbl ∧ Cond.selects y_Model_body.cls y_Model_body y_Model_body ∈ lw_tbl ∧ Cond.initialized y_Model_body.cls ∈ lw_tbl := ⟨List.mem_of_getElem? (i := 1733) (by decide +kernel), List.mem_of_getElem? (i := 1734) (by decide +kernel), List.mem_of_getElem? (i := 1735) (by decide +kernel), List.mem_of_getElem? (i := 94) (by decide +kernel)⟩
theorem lx_m_body_c : Cond.code y_Model_body prog_12_method_78_code 2 (some .int) ∈ am_T := am_in 1736 (by decide +kernel) (by decide +kernel)
theorem lx_m_body_y : y_Model_body.cls ≠ "java/lang/invoke/MethodHandle" ∧ y_Model_body.cls ≠ "java/lang/invoke/VarHandle" ∧ (parseMethodDescriptor y_Model_body.desc).map (fun d => d.parameters.length) = some 1 := ⟨by decide +kernel, by decide +kernel, by decide +kernel⟩
theorem lx_s27 (C0 : lw_At p s m0 meth c b L xs) (F : lx_F s D g adx adm) (hR : Rel x m) (w : lx_W s D g adx adm H locs x m) (hv : lx_in i3 L) (hcs : cells ≤ room_1.cells ∧ slots ≤ room_1.slots) (hl : lv_has ls 4 [(3, .int i3), (2, .ref (adm 0)), (1, .ref (adx 0)), (0, .ref b)]) (kk : lx_K1 p l e s m0 b below meth c D g adx adm cells slots ls Q) : W p l e room_1 s m0 #[.ref b] below meth c H locs cells slots Q (F0 m0 975 ls []) := by
  obtain ⟨hx, hb, hr, hml, hown, hts, hX, hbl, hlocks, hgv⟩ := C0
  have hbA : ¬ (fun q : Nat => s.heap.size ≤ q) b := Nat.not_le.mpr hbl
  obtain ⟨r, xx, mm, hR2, c1, c2⟩ := P_body hR (xs (i3 + 1).toNatClampNeg)
  refine lv_aload_n hx hb lx_d_975 rfl (lv_at hl 2 rfl) ?_
  refine lv_aload_n hx hb lx_d_976 rfl (lv_at hl 3 rfl) ?_
  refine lv_iload_n hx hb lx_d_977 rfl (lv_at hl 0 rfl) ?_
  refine lv_iconst (v := 1) hx hb lx_d_978 (by decide) ?_
  refine lv_iadd hx hb lx_d_979 ?_
  refine va_sld hx hb hX hbl hbA w.2.2 hv.1 lx_d_980 ?_
  refine lx_cX (rest := []) hx hb hml hown hts F w c1 rfl lx_c_body_w.1 lx_c_body_w.2.1 lx_c_body_w.2.2.1 lx_c_body_w.2.2.2 lx_c_body_c lx_c_body_y ⟨(Nat.le_of_ble_eq_true rfl), (Nat.le_of_ble_eq_true rfl)⟩ hcs hl.1 rfl (Nat.le_of_ble_eq_true rfl) rfl lx_d_981 (fun H locs w => ?_)
  refine lv_aload_n hx hb lx_d_984 rfl (lv_at hl 1 rfl) ?_
  refine lv_aload_n hx hb lx_d_985 rfl (lv_at hl 3 rfl) ?_
  refine lv_iload_n hx hb lx_d_986 rfl (lv_at hl 0 rfl) ?_
  refine lv_iconst (v := 1) hx hb lx_d_987 (by decide) ?_
  refine lv_iadd hx hb lx_d_988 ?_
  refine va_sld hx hb hX hbl hbA w.2.2 hv.1 lx_d_989 ?_
  refine lx_cM (rest := [.int r]) hx hb hml hown hts F w c2 rfl lx_m_body_w.1 lx_m_body_w.2.1 lx_m_body_w.2.2.1 lx_m_body_w.2.2.2 lx_m_body_c lx_m_body_y ⟨(Nat.le_of_ble_eq_true rfl), (Nat.le_of_ble_eq_true rfl)⟩ hcs hl.1 rfl (Nat.le_of_ble_eq_true rfl) rfl lx_d_990 (fun H locs w => ?_)
  exact lv_icmp_eq (tgt := 1366) hx hb lx_d_993 (by decide) (fun _ => kk _ _ _ _ hR2 w) (fun q => absurd rfl q)
theorem lx_c_act_w : Cond.methodLink R_law 132 y_Club_act ∈ lw_tbl ∧ Cond.instanceMethod y_Club_act ∈ lw_tbl ∧ Cond.selects y_Club_act.cls y_Club_act y_Club_act ∈ lw_tbl ∧ Cond.initialized y_Club_act.cls ∈ lw_tbl := ⟨List.mem_of_getElem? (i := 1160) (by decide +kernel), List.mem_of_getElem? (i := 1161) (by decide +kernel), List.mem_of_getElem? (i := 1162) (by decide +kernel), List.mem_of_getElem? (i := 83) (by decide +kernel)⟩
theorem lx_c_act_c : Cond.code y_Club_act prog_1_method_33_code 4 (some .int) ∈ am_T := am_in 1163 (by decide +kernel) (by decide +kernel)
theorem lx_c_act_y : y_Club_act.cls ≠ "java/lang/invoke/MethodHandle" ∧ y_Club_act.cls ≠ "java/lang/invoke/VarHandle" ∧ (parseMethodDescriptor y_Club_act.desc).map (fun d => d.parameters.length) = some 3 := ⟨by decide +kernel, by decide +kernel, by decide +kernel⟩
theorem lx_m_act_w : Cond.methodLink R_law 135 y_Model_act ∈ lw_tbl ∧ Cond.instanceMethod y_Model_act ∈ lw_tbl ∧ Cond.selects y_Model_act.cls y_Model_act y_Model_act ∈ lw_tbl ∧ Cond.initialized y_Model_act.cls ∈ lw_tbl := ⟨List.mem_of_getElem? (i := 1738) (by decide +kernel), List.mem_of_getElem? (i := 1739) (by decide +kernel), List.mem_of_getElem? (i := 1740) (by decide +kernel), List.mem_of_getElem? (i := 94) (by decide +kernel)⟩
theorem lx_m_act_c : Cond.code y_Model_act prog_12_method_85_code 4 (some .int) ∈ am_T := am_in 1741 (by decide +kernel) (by decide +kernel)
theorem lx_m_act_y : y_Model_act.cls ≠ "java/lang/invoke/MethodHandle" ∧ y_Model_act.cls ≠ "java/lang/invoke/VarHandle" ∧ (parseMethodDescriptor y_Model_act.desc).map (fun d => d.parameters.length) = some 3 := ⟨by decide +kernel, by decide +kernel, by decide +kernel⟩
theorem lx_s28 (C0 : lw_At p s m0 meth c b L xs) (F : lx_F s D g adx adm) (hR : Rel x m) (w : lx_W s D g adx adm H locs x m) (hv : lx_in i3 L) (hcs : cells ≤ room_1.cells ∧ slots ≤ room_1.slots) (hl : lv_has ls 4 [(3, .int i3), (2, .ref (adm 0)), (1, .ref (adx 0)), (0, .ref b)]) (kk : lx_K1 p l e s m0 b below meth c D g adx adm cells slots ls Q) : W p l e room_1 s m0 #[.ref b] below meth c H locs cells slots Q (F0 m0 998 ls []) := by
  obtain ⟨hx, hb, hr, hml, hown, hts, hX, hbl, hlocks, hgv⟩ := C0
  have hbA : ¬ (fun q : Nat => s.heap.size ≤ q) b := Nat.not_le.mpr hbl
  obtain ⟨r, xx, mm, hR2, c1, c2⟩ := P_act hR (xs (i3 + 1).toNatClampNeg) (xs (i3 + 2).toNatClampNeg) (xs (i3 + 3).toNatClampNeg)
  refine lv_aload_n hx hb lx_d_998 rfl (lv_at hl 2 rfl) ?_
  refine lv_aload_n hx hb lx_d_999 rfl (lv_at hl 3 rfl) ?_
  refine lv_iload_n hx hb lx_d_1000 rfl (lv_at hl 0 rfl) ?_
  refine lv_iconst (v := 1) hx hb lx_d_1001 (by decide) ?_
  refine lv_iadd hx hb lx_d_1002 ?_
  refine va_sld hx hb hX hbl hbA w.2.2 hv.1 lx_d_1003 ?_
  refine lv_aload_n hx hb lx_d_1004 rfl (lv_at hl 3 rfl) ?_
  refine lv_iload_n hx hb lx_d_1005 rfl (lv_at hl 0 rfl) ?_
  refine lv_iconst (v := 2) hx hb lx_d_1006 (by decide) ?_
  refine lv_iadd hx hb lx_d_1007 ?_
  refine va_sld hx hb hX hbl hbA w.2.2 hv.2.1 lx_d_1008 ?_
  refine lv_aload_n hx hb lx_d_1009 rfl (lv_at hl 3 rfl) ?_
  refine lv_iload_n hx hb lx_d_1010 rfl (lv_at hl 0 rfl) ?_
  refine lv_iconst (v := 3) hx hb lx_d_1011 (by decide) ?_
  refine lv_iadd hx hb lx_d_1012 ?_
  refine va_sld hx hb hX hbl hbA w.2.2 hv.2.2.1 lx_d_1013 ?_
  refine lx_cX (rest := []) hx hb hml hown hts F w c1 rfl lx_c_act_w.1 lx_c_act_w.2.1 lx_c_act_w.2.2.1 lx_c_act_w.2.2.2 lx_c_act_c lx_c_act_y ⟨(Nat.le_of_ble_eq_true rfl), (Nat.le_of_ble_eq_true rfl)⟩ hcs hl.1 rfl (Nat.le_of_ble_eq_true rfl) rfl lx_d_1014 (fun H locs w => ?_)
  refine lv_aload_n hx hb lx_d_1017 rfl (lv_at hl 1 rfl) ?_
  refine lv_aload_n hx hb lx_d_1018 rfl (lv_at hl 3 rfl) ?_
  refine lv_iload_n hx hb lx_d_1019 rfl (lv_at hl 0 rfl) ?_
  refine lv_iconst (v := 1) hx hb lx_d_1020 (by decide) ?_
  refine lv_iadd hx hb lx_d_1021 ?_
  refine va_sld hx hb hX hbl hbA w.2.2 hv.1 lx_d_1022 ?_
  refine lv_aload_n hx hb lx_d_1023 rfl (lv_at hl 3 rfl) ?_
  refine lv_iload_n hx hb lx_d_1024 rfl (lv_at hl 0 rfl) ?_
  refine lv_iconst (v := 2) hx hb lx_d_1025 (by decide) ?_
  refine lv_iadd hx hb lx_d_1026 ?_
  refine va_sld hx hb hX hbl hbA w.2.2 hv.2.1 lx_d_1027 ?_
  refine lv_aload_n hx hb lx_d_1028 rfl (lv_at hl 3 rfl) ?_
  refine lv_iload_n hx hb lx_d_1029 rfl (lv_at hl 0 rfl) ?_
  refine lv_iconst (v := 3) hx hb lx_d_1030 (by decide) ?_
  refine lv_iadd hx hb lx_d_1031 ?_
  refine va_sld hx hb hX hbl hbA w.2.2 hv.2.2.1 lx_d_1032 ?_
  refine lx_cM (rest := [.int r]) hx hb hml hown hts F w c2 rfl lx_m_act_w.1 lx_m_act_w.2.1 lx_m_act_w.2.2.1 lx_m_act_w.2.2.2 lx_m_act_c lx_m_act_y ⟨(Nat.le_of_ble_eq_true rfl), (Nat.le_of_ble_eq_true rfl)⟩ hcs hl.1 rfl (Nat.le_of_ble_eq_true rfl) rfl lx_d_1033 (fun H locs w => ?_)
  exact lv_icmp_eq (tgt := 1366) hx hb lx_d_1036 (by decide) (fun _ => kk _ _ _ _ hR2 w) (fun q => absurd rfl q)
theorem lx_c_trace_w : Cond.methodLink R_law 136 y_Club_trace ∈ lw_tbl ∧ Cond.instanceMethod y_Club_trace ∈ lw_tbl ∧ Cond.selects y_Club_trace.cls y_Club_trace y_Club_trace ∈ lw_tbl ∧ Cond.initialized y_Club_trace.cls ∈ lw_tbl := ⟨List.mem_of_getElem? (i := 1194) (by decide +kernel), List.mem_of_getElem? (i := 1195) (by decide +kernel), List.mem_of_getElem? (i := 1196) (by decide +kernel), List.mem_of_getElem? (i := 83) (by decide +kernel)⟩
theorem lx_c_trace_c : Cond.code y_Club_trace prog_1_method_34_code 2 (some .int) ∈ am_T := am_in 1197 (by decide +kernel) (by decide +kernel)
theorem lx_c_trace_y : y_Club_trace.cls ≠ "java/lang/invoke/MethodHandle" ∧ y_Club_trace.cls ≠ "java/lang/invoke/VarHandle" ∧ (parseMethodDescriptor y_Club_trace.desc).map (fun d => d.parameters.length) = some 1 := ⟨by decide +kernel, by decide +kernel, by decide +kernel⟩
theorem lx_m_trace_w : Cond.methodLink R_law 139 y_Model_trace ∈ lw_tbl ∧ Cond.instanceMethod y_Model_trace ∈ lw_tbl ∧ Cond.selects y_Model_trace.cls y_Model_trace y_Model_trace ∈ lw_tbl ∧ Cond.initialized y_Model_trace.cls ∈ lw_tbl := ⟨List.mem_of_getElem? (i := 1766) (by decide +kernel), List.mem_of_getElem? (i := 1767) (by decide +kernel), List.mem_of_getElem? (i := 1768) (by decide +kernel), List.mem_of_getElem? (i := 94) (by decide +kernel)⟩
theorem lx_m_trace_c : Cond.code y_Model_trace prog_12_method_86_code 2 (some .int) ∈ am_T := am_in 1769 (by decide +kernel) (by decide +kernel)
theorem lx_m_trace_y : y_Model_trace.cls ≠ "java/lang/invoke/MethodHandle" ∧ y_Model_trace.cls ≠ "java/lang/invoke/VarHandle" ∧ (parseMethodDescriptor y_Model_trace.desc).map (fun d => d.parameters.length) = some 1 := ⟨by decide +kernel, by decide +kernel, by decide +kernel⟩
theorem lx_s29 (C0 : lw_At p s m0 meth c b L xs) (F : lx_F s D g adx adm) (hR : Rel x m) (w : lx_W s D g adx adm H locs x m) (hv : lx_in i3 L) (hcs : cells ≤ room_1.cells ∧ slots ≤ room_1.slots) (hl : lv_has ls 4 [(3, .int i3), (2, .ref (adm 0)), (1, .ref (adx 0)), (0, .ref b)]) (kk : lx_K1 p l e s m0 b below meth c D g adx adm cells slots ls Q) : W p l e room_1 s m0 #[.ref b] below meth c H locs cells slots Q (F0 m0 1041 ls []) := by
  obtain ⟨hx, hb, hr, hml, hown, hts, hX, hbl, hlocks, hgv⟩ := C0
  have hbA : ¬ (fun q : Nat => s.heap.size ≤ q) b := Nat.not_le.mpr hbl
  obtain ⟨r, xx, mm, hR2, c1, c2⟩ := P_trace hR (xs (i3 + 1).toNatClampNeg)
  refine lv_aload_n hx hb lx_d_1041 rfl (lv_at hl 2 rfl) ?_
  refine lv_aload_n hx hb lx_d_1042 rfl (lv_at hl 3 rfl) ?_
  refine lv_iload_n hx hb lx_d_1043 rfl (lv_at hl 0 rfl) ?_
  refine lv_iconst (v := 1) hx hb lx_d_1044 (by decide) ?_
  refine lv_iadd hx hb lx_d_1045 ?_
  refine va_sld hx hb hX hbl hbA w.2.2 hv.1 lx_d_1046 ?_
  refine lx_cX (rest := []) hx hb hml hown hts F w c1 rfl lx_c_trace_w.1 lx_c_trace_w.2.1 lx_c_trace_w.2.2.1 lx_c_trace_w.2.2.2 lx_c_trace_c lx_c_trace_y ⟨(Nat.le_of_ble_eq_true rfl), (Nat.le_of_ble_eq_true rfl)⟩ hcs hl.1 rfl (Nat.le_of_ble_eq_true rfl) rfl lx_d_1047 (fun H locs w => ?_)
  refine lv_aload_n hx hb lx_d_1050 rfl (lv_at hl 1 rfl) ?_
  refine lv_aload_n hx hb lx_d_1051 rfl (lv_at hl 3 rfl) ?_
  refine lv_iload_n hx hb lx_d_1052 rfl (lv_at hl 0 rfl) ?_
  refine lv_iconst (v := 1) hx hb lx_d_1053 (by decide) ?_
  refine lv_iadd hx hb lx_d_1054 ?_
  refine va_sld hx hb hX hbl hbA w.2.2 hv.1 lx_d_1055 ?_
  refine lx_cM (rest := [.int r]) hx hb hml hown hts F w c2 rfl lx_m_trace_w.1 lx_m_trace_w.2.1 lx_m_trace_w.2.2.1 lx_m_trace_w.2.2.2 lx_m_trace_c lx_m_trace_y ⟨(Nat.le_of_ble_eq_true rfl), (Nat.le_of_ble_eq_true rfl)⟩ hcs hl.1 rfl (Nat.le_of_ble_eq_true rfl) rfl lx_d_1056 (fun H locs w => ?_)
  exact lv_icmp_eq (tgt := 1366) hx hb lx_d_1059 (by decide) (fun _ => kk _ _ _ _ hR2 w) (fun q => absurd rfl q)
theorem lx_c_keep_w : Cond.methodLink R_law 140 y_Club_keep ∈ lw_tbl ∧ Cond.instanceMethod y_Club_keep ∈ lw_tbl ∧ Cond.selects y_Club_keep.cls y_Club_keep y_Club_keep ∈ lw_tbl ∧ Cond.initialized y_Club_keep.cls ∈ lw_tbl := ⟨List.mem_of_getElem? (i := 1207) (by decide +kernel), List.mem_of_getElem? (i := 1208) (by decide +kernel), List.mem_of_getElem? (i := 1209) (by decide +kernel), List.mem_of_getElem? (i := 83) (by decide +kernel)⟩
theorem lx_c_keep_c : Cond.code y_Club_keep prog_1_method_35_code 3 (some .int) ∈ am_T := am_in 1210 (by decide +kernel) (by decide +kernel)
theorem lx_c_keep_y : y_Club_keep.cls ≠ "java/lang/invoke/MethodHandle" ∧ y_Club_keep.cls ≠ "java/lang/invoke/VarHandle" ∧ (parseMethodDescriptor y_Club_keep.desc).map (fun d => d.parameters.length) = some 2 := ⟨by decide +kernel, by decide +kernel, by decide +kernel⟩
theorem lx_m_keep_w : Cond.methodLink R_law 143 y_Model_keep ∈ lw_tbl ∧ Cond.instanceMethod y_Model_keep ∈ lw_tbl ∧ Cond.selects y_Model_keep.cls y_Model_keep y_Model_keep ∈ lw_tbl ∧ Cond.initialized y_Model_keep.cls ∈ lw_tbl := ⟨List.mem_of_getElem? (i := 1770) (by decide +kernel), List.mem_of_getElem? (i := 1771) (by decide +kernel), List.mem_of_getElem? (i := 1772) (by decide +kernel), List.mem_of_getElem? (i := 94) (by decide +kernel)⟩
theorem lx_m_keep_c : Cond.code y_Model_keep prog_12_method_88_code 3 (some .int) ∈ am_T := am_in 1773 (by decide +kernel) (by decide +kernel)
theorem lx_m_keep_y : y_Model_keep.cls ≠ "java/lang/invoke/MethodHandle" ∧ y_Model_keep.cls ≠ "java/lang/invoke/VarHandle" ∧ (parseMethodDescriptor y_Model_keep.desc).map (fun d => d.parameters.length) = some 2 := ⟨by decide +kernel, by decide +kernel, by decide +kernel⟩
theorem lx_s30 (C0 : lw_At p s m0 meth c b L xs) (F : lx_F s D g adx adm) (hR : Rel x m) (w : lx_W s D g adx adm H locs x m) (hv : lx_in i3 L) (hcs : cells ≤ room_1.cells ∧ slots ≤ room_1.slots) (hl : lv_has ls 4 [(3, .int i3), (2, .ref (adm 0)), (1, .ref (adx 0)), (0, .ref b)]) (kk : lx_K1 p l e s m0 b below meth c D g adx adm cells slots ls Q) : W p l e room_1 s m0 #[.ref b] below meth c H locs cells slots Q (F0 m0 1064 ls []) := by
  obtain ⟨hx, hb, hr, hml, hown, hts, hX, hbl, hlocks, hgv⟩ := C0
  have hbA : ¬ (fun q : Nat => s.heap.size ≤ q) b := Nat.not_le.mpr hbl
  obtain ⟨r, xx, mm, hR2, c1, c2⟩ := P_keep hR (xs (i3 + 1).toNatClampNeg) (xs (i3 + 2).toNatClampNeg)
  refine lv_aload_n hx hb lx_d_1064 rfl (lv_at hl 2 rfl) ?_
  refine lv_aload_n hx hb lx_d_1065 rfl (lv_at hl 3 rfl) ?_
  refine lv_iload_n hx hb lx_d_1066 rfl (lv_at hl 0 rfl) ?_
  refine lv_iconst (v := 1) hx hb lx_d_1067 (by decide) ?_
  refine lv_iadd hx hb lx_d_1068 ?_
  refine va_sld hx hb hX hbl hbA w.2.2 hv.1 lx_d_1069 ?_
  refine lv_aload_n hx hb lx_d_1070 rfl (lv_at hl 3 rfl) ?_
  refine lv_iload_n hx hb lx_d_1071 rfl (lv_at hl 0 rfl) ?_
  refine lv_iconst (v := 2) hx hb lx_d_1072 (by decide) ?_
  refine lv_iadd hx hb lx_d_1073 ?_
  refine va_sld hx hb hX hbl hbA w.2.2 hv.2.1 lx_d_1074 ?_
  refine lx_cX (rest := []) hx hb hml hown hts F w c1 rfl lx_c_keep_w.1 lx_c_keep_w.2.1 lx_c_keep_w.2.2.1 lx_c_keep_w.2.2.2 lx_c_keep_c lx_c_keep_y ⟨(Nat.le_of_ble_eq_true rfl), (Nat.le_of_ble_eq_true rfl)⟩ hcs hl.1 rfl (Nat.le_of_ble_eq_true rfl) rfl lx_d_1075 (fun H locs w => ?_)
  refine lv_aload_n hx hb lx_d_1078 rfl (lv_at hl 1 rfl) ?_
  refine lv_aload_n hx hb lx_d_1079 rfl (lv_at hl 3 rfl) ?_
  refine lv_iload_n hx hb lx_d_1080 rfl (lv_at hl 0 rfl) ?_
  refine lv_iconst (v := 1) hx hb lx_d_1081 (by decide) ?_
  refine lv_iadd hx hb lx_d_1082 ?_
  refine va_sld hx hb hX hbl hbA w.2.2 hv.1 lx_d_1083 ?_
  refine lv_aload_n hx hb lx_d_1084 rfl (lv_at hl 3 rfl) ?_
  refine lv_iload_n hx hb lx_d_1085 rfl (lv_at hl 0 rfl) ?_
  refine lv_iconst (v := 2) hx hb lx_d_1086 (by decide) ?_
  refine lv_iadd hx hb lx_d_1087 ?_
  refine va_sld hx hb hX hbl hbA w.2.2 hv.2.1 lx_d_1088 ?_
  refine lx_cM (rest := [.int r]) hx hb hml hown hts F w c2 rfl lx_m_keep_w.1 lx_m_keep_w.2.1 lx_m_keep_w.2.2.1 lx_m_keep_w.2.2.2 lx_m_keep_c lx_m_keep_y ⟨(Nat.le_of_ble_eq_true rfl), (Nat.le_of_ble_eq_true rfl)⟩ hcs hl.1 rfl (Nat.le_of_ble_eq_true rfl) rfl lx_d_1089 (fun H locs w => ?_)
  exact lv_icmp_eq (tgt := 1366) hx hb lx_d_1092 (by decide) (fun _ => kk _ _ _ _ hR2 w) (fun q => absurd rfl q)
theorem lx_c_row_w : Cond.methodLink R_law 144 y_Club_row ∈ lw_tbl ∧ Cond.instanceMethod y_Club_row ∈ lw_tbl ∧ Cond.selects y_Club_row.cls y_Club_row y_Club_row ∈ lw_tbl ∧ Cond.initialized y_Club_row.cls ∈ lw_tbl := ⟨List.mem_of_getElem? (i := 1221) (by decide +kernel), List.mem_of_getElem? (i := 1222) (by decide +kernel), List.mem_of_getElem? (i := 1223) (by decide +kernel), List.mem_of_getElem? (i := 83) (by decide +kernel)⟩
theorem lx_c_row_c : Cond.code y_Club_row prog_1_method_36_code 4 (some .int) ∈ am_T := am_in 1224 (by decide +kernel) (by decide +kernel)
theorem lx_c_row_y : y_Club_row.cls ≠ "java/lang/invoke/MethodHandle" ∧ y_Club_row.cls ≠ "java/lang/invoke/VarHandle" ∧ (parseMethodDescriptor y_Club_row.desc).map (fun d => d.parameters.length) = some 3 := ⟨by decide +kernel, by decide +kernel, by decide +kernel⟩
theorem lx_m_row_w : Cond.methodLink R_law 147 y_Model_row ∈ lw_tbl ∧ Cond.instanceMethod y_Model_row ∈ lw_tbl ∧ Cond.selects y_Model_row.cls y_Model_row y_Model_row ∈ lw_tbl ∧ Cond.initialized y_Model_row.cls ∈ lw_tbl := ⟨List.mem_of_getElem? (i := 1774) (by decide +kernel), List.mem_of_getElem? (i := 1775) (by decide +kernel), List.mem_of_getElem? (i := 1776) (by decide +kernel), List.mem_of_getElem? (i := 94) (by decide +kernel)⟩
theorem lx_m_row_c : Cond.code y_Model_row prog_12_method_89_code 5 (some .int) ∈ am_T := am_in 1777 (by decide +kernel) (by decide +kernel)
theorem lx_m_row_y : y_Model_row.cls ≠ "java/lang/invoke/MethodHandle" ∧ y_Model_row.cls ≠ "java/lang/invoke/VarHandle" ∧ (parseMethodDescriptor y_Model_row.desc).map (fun d => d.parameters.length) = some 3 := ⟨by decide +kernel, by decide +kernel, by decide +kernel⟩
theorem lx_s31 (C0 : lw_At p s m0 meth c b L xs) (F : lx_F s D g adx adm) (hR : Rel x m) (w : lx_W s D g adx adm H locs x m) (hv : lx_in i3 L) (hcs : cells ≤ room_1.cells ∧ slots ≤ room_1.slots) (hl : lv_has ls 4 [(3, .int i3), (2, .ref (adm 0)), (1, .ref (adx 0)), (0, .ref b)]) (kk : lx_K1 p l e s m0 b below meth c D g adx adm cells slots ls Q) : W p l e room_1 s m0 #[.ref b] below meth c H locs cells slots Q (F0 m0 1097 ls []) := by
  obtain ⟨hx, hb, hr, hml, hown, hts, hX, hbl, hlocks, hgv⟩ := C0
  have hbA : ¬ (fun q : Nat => s.heap.size ≤ q) b := Nat.not_le.mpr hbl
  obtain ⟨r, xx, mm, hR2, c1, c2⟩ := P_row hR (xs (i3 + 1).toNatClampNeg) (xs (i3 + 2).toNatClampNeg) (xs (i3 + 3).toNatClampNeg)
  refine lv_aload_n hx hb lx_d_1097 rfl (lv_at hl 2 rfl) ?_
  refine lv_aload_n hx hb lx_d_1098 rfl (lv_at hl 3 rfl) ?_
  refine lv_iload_n hx hb lx_d_1099 rfl (lv_at hl 0 rfl) ?_
  refine lv_iconst (v := 1) hx hb lx_d_1100 (by decide) ?_
  refine lv_iadd hx hb lx_d_1101 ?_
  refine va_sld hx hb hX hbl hbA w.2.2 hv.1 lx_d_1102 ?_
  refine lv_aload_n hx hb lx_d_1103 rfl (lv_at hl 3 rfl) ?_
  refine lv_iload_n hx hb lx_d_1104 rfl (lv_at hl 0 rfl) ?_
  refine lv_iconst (v := 2) hx hb lx_d_1105 (by decide) ?_
  refine lv_iadd hx hb lx_d_1106 ?_
  refine va_sld hx hb hX hbl hbA w.2.2 hv.2.1 lx_d_1107 ?_
  refine lv_aload_n hx hb lx_d_1108 rfl (lv_at hl 3 rfl) ?_
  refine lv_iload_n hx hb lx_d_1109 rfl (lv_at hl 0 rfl) ?_
  refine lv_iconst (v := 3) hx hb lx_d_1110 (by decide) ?_
  refine lv_iadd hx hb lx_d_1111 ?_
  refine va_sld hx hb hX hbl hbA w.2.2 hv.2.2.1 lx_d_1112 ?_
  refine lx_cX (rest := []) hx hb hml hown hts F w c1 rfl lx_c_row_w.1 lx_c_row_w.2.1 lx_c_row_w.2.2.1 lx_c_row_w.2.2.2 lx_c_row_c lx_c_row_y ⟨(Nat.le_of_ble_eq_true rfl), (Nat.le_of_ble_eq_true rfl)⟩ hcs hl.1 rfl (Nat.le_of_ble_eq_true rfl) rfl lx_d_1113 (fun H locs w => ?_)
  refine lv_aload_n hx hb lx_d_1116 rfl (lv_at hl 1 rfl) ?_
  refine lv_aload_n hx hb lx_d_1117 rfl (lv_at hl 3 rfl) ?_
  refine lv_iload_n hx hb lx_d_1118 rfl (lv_at hl 0 rfl) ?_
  refine lv_iconst (v := 1) hx hb lx_d_1119 (by decide) ?_
  refine lv_iadd hx hb lx_d_1120 ?_
  refine va_sld hx hb hX hbl hbA w.2.2 hv.1 lx_d_1121 ?_
  refine lv_aload_n hx hb lx_d_1122 rfl (lv_at hl 3 rfl) ?_
  refine lv_iload_n hx hb lx_d_1123 rfl (lv_at hl 0 rfl) ?_
  refine lv_iconst (v := 2) hx hb lx_d_1124 (by decide) ?_
  refine lv_iadd hx hb lx_d_1125 ?_
  refine va_sld hx hb hX hbl hbA w.2.2 hv.2.1 lx_d_1126 ?_
  refine lv_aload_n hx hb lx_d_1127 rfl (lv_at hl 3 rfl) ?_
  refine lv_iload_n hx hb lx_d_1128 rfl (lv_at hl 0 rfl) ?_
  refine lv_iconst (v := 3) hx hb lx_d_1129 (by decide) ?_
  refine lv_iadd hx hb lx_d_1130 ?_
  refine va_sld hx hb hX hbl hbA w.2.2 hv.2.2.1 lx_d_1131 ?_
  refine lx_cM (rest := [.int r]) hx hb hml hown hts F w c2 rfl lx_m_row_w.1 lx_m_row_w.2.1 lx_m_row_w.2.2.1 lx_m_row_w.2.2.2 lx_m_row_c lx_m_row_y ⟨(Nat.le_of_ble_eq_true rfl), (Nat.le_of_ble_eq_true rfl)⟩ hcs hl.1 rfl (Nat.le_of_ble_eq_true rfl) rfl lx_d_1132 (fun H locs w => ?_)
  exact lv_icmp_eq (tgt := 1366) hx hb lx_d_1135 (by decide) (fun _ => kk _ _ _ _ hR2 w) (fun q => absurd rfl q)
end Lc
