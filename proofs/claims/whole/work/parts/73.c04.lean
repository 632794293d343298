/-! the cases of the law (by gen72.py) -/
section Lc
variable {p : Program} {l : Launch} {e : Env} {s : State} {m0 : MethodId} {below : List Frame} {meth : Method} {c : Code} {H : Heap} {locs : List Loc} {cells slots : Nat} {ls : Array Slot} {Q : State → Prop} {D : va_G} {g : am_G} {adx adm : Nat → Nat} {x m : am_H} {b L : Nat} {xs : Nat → Int32} {i3 : Int32}
theorem lx_c_put_w : Cond.methodLink R_law 150 y_Club_put ∈ lw_tbl ∧ Cond.instanceMethod y_Club_put ∈ lw_tbl ∧ Cond.selects y_Club_put.cls y_Club_put y_Club_put ∈ lw_tbl ∧ Cond.initialized y_Club_put.cls ∈ lw_tbl := ⟨List.mem_of_getElem? (i := 1235) (by decide +kernel), List.mem_of_getElem? (i := 1236) (by decide +kernel), List.mem_of_getElem? (i := 1237) (by decide +kernel), List.mem_of_getElem? (i := 83) (by decide +kernel)⟩
theorem lx_c_put_c : Cond.code y_Club_put prog_1_method_37_code 6 (some .int) ∈ am_T := am_in 1238 (by decide +kernel) (by decide +kernel)
theorem lx_c_put_y : y_Club_put.cls ≠ "java/lang/invoke/MethodHandle" ∧ y_Club_put.cls ≠ "java/lang/invoke/VarHandle" ∧ (parseMethodDescriptor y_Club_put.desc).map (fun d => d.parameters.length) = some 3 := ⟨by decide +kernel, by decide +kernel, by decide +kernel⟩
theorem lx_m_put_w : Cond.methodLink R_law 154 y_Model_put ∈ lw_tbl ∧ Cond.instanceMethod y_Model_put ∈ lw_tbl ∧ Cond.selects y_Model_put.cls y_Model_put y_Model_put ∈ lw_tbl ∧ Cond.initialized y_Model_put.cls ∈ lw_tbl := ⟨List.mem_of_getElem? (i := 1778) (by decide +kernel), List.mem_of_getElem? (i := 1779) (by decide +kernel), List.mem_of_getElem? (i := 1780) (by decide +kernel), List.mem_of_getElem? (i := 94) (by decide +kernel)⟩
theorem lx_m_put_c : Cond.code y_Model_put prog_12_method_92_code 6 (some .int) ∈ am_T := am_in 1781 (by decide +kernel) (by decide +kernel)
theorem lx_m_put_y : y_Model_put.cls ≠ "java/lang/invoke/MethodHandle" ∧ y_Model_put.cls ≠ "java/lang/invoke/VarHandle" ∧ (parseMethodDescriptor y_Model_put.desc).map (fun d => d.parameters.length) = some 3 := ⟨by decide +kernel, by decide +kernel, by decide +kernel⟩
theorem lx_s32 (C0 : lw_At p s m0 meth c b L xs) (F : lx_F s D g adx adm) (hR : Rel x m) (w : lx_W s D g adx adm H locs x m) (hv : lx_in i3 L) (hcs : cells ≤ room_1.cells ∧ slots ≤ room_1.slots) (hl : lv_has ls 4 [(3, .int i3), (2, .ref (adm 0)), (1, .ref (adx 0)), (0, .ref b)]) (kk : lx_K1 p l e s m0 b below meth c D g adx adm cells slots ls Q) : W p l e room_1 s m0 #[.ref b] below meth c H locs cells slots Q (F0 m0 1140 ls []) := by
  obtain ⟨hx, hb, hr, hml, hown, hts, hX, hbl, hlocks, hgv⟩ := C0
  have hbA : ¬ (fun q : Nat => s.heap.size ≤ q) b := Nat.not_le.mpr hbl
  obtain ⟨r, xx, mm, hR2, c1, c2⟩ := P_put hR (xs (i3 + 1).toNatClampNeg) (xs (i3 + 2).toNatClampNeg) ((((xs (i3 + 3).toNatClampNeg).toInt64 <<< ((32 : Int32).toInt64 &&& 63)) ||| ((xs (i3 + 4).toNatClampNeg).toInt64 &&& 4294967295)))
  refine lv_aload_n hx hb lx_d_1140 rfl (lv_at hl 2 rfl) ?_
  refine lv_aload_n hx hb lx_d_1141 rfl (lv_at hl 3 rfl) ?_
  refine lv_iload_n hx hb lx_d_1142 rfl (lv_at hl 0 rfl) ?_
  refine lv_iconst (v := 1) hx hb lx_d_1143 (by decide) ?_
  refine lv_iadd hx hb lx_d_1144 ?_
  refine va_sld hx hb hX hbl hbA w.2.2 hv.1 lx_d_1145 ?_
  refine lv_aload_n hx hb lx_d_1146 rfl (lv_at hl 3 rfl) ?_
  refine lv_iload_n hx hb lx_d_1147 rfl (lv_at hl 0 rfl) ?_
  refine lv_iconst (v := 2) hx hb lx_d_1148 (by decide) ?_
  refine lv_iadd hx hb lx_d_1149 ?_
  refine va_sld hx hb hX hbl hbA w.2.2 hv.2.1 lx_d_1150 ?_
  refine lv_aload_n hx hb lx_d_1151 rfl (lv_at hl 3 rfl) ?_
  refine lv_iload_n hx hb lx_d_1152 rfl (lv_at hl 0 rfl) ?_
  refine lv_iconst (v := 3) hx hb lx_d_1153 (by decide) ?_
  refine lv_iadd hx hb lx_d_1154 ?_
  refine va_sld hx hb hX hbl hbA w.2.2 hv.2.2.1 lx_d_1155 ?_
  refine lv_i2l (v := (xs (i3 + 3).toNatClampNeg).toInt64) hx hb lx_d_1156 rfl ?_
  refine lv_bipush (v := 32) hx hb lx_d_1157 (by decide) ?_
  refine lv_lshl (v := (xs (i3 + 3).toNatClampNeg).toInt64 <<< ((32 : Int32).toInt64 &&& 63)) hx hb lx_d_1159 rfl ?_
  refine lv_aload_n hx hb lx_d_1160 rfl (lv_at hl 3 rfl) ?_
  refine lv_iload_n hx hb lx_d_1161 rfl (lv_at hl 0 rfl) ?_
  refine lv_iconst (v := 4) hx hb lx_d_1162 (by decide) ?_
  refine lv_iadd hx hb lx_d_1163 ?_
  refine va_sld hx hb hX hbl hbA w.2.2 hv.2.2.2.1 lx_d_1164 ?_
  refine lv_i2l (v := (xs (i3 + 4).toNatClampNeg).toInt64) hx hb lx_d_1165 rfl ?_
  refine lv_ldc2 (v := 4294967295) hx hb hown (hts _ lx_ldc) lx_d_1166 ?_
  refine lv_land hx hb lx_d_1169 ?_
  refine lv_lor hx hb lx_d_1170 ?_
  refine lx_cX (rest := []) hx hb hml hown hts F w c1 rfl lx_c_put_w.1 lx_c_put_w.2.1 lx_c_put_w.2.2.1 lx_c_put_w.2.2.2 lx_c_put_c lx_c_put_y ⟨(Nat.le_of_ble_eq_true rfl), (Nat.le_of_ble_eq_true rfl)⟩ hcs hl.1 rfl (Nat.le_of_ble_eq_true rfl) rfl lx_d_1171 (fun H locs w => ?_)
  refine lv_aload_n hx hb lx_d_1174 rfl (lv_at hl 1 rfl) ?_
  refine lv_aload_n hx hb lx_d_1175 rfl (lv_at hl 3 rfl) ?_
  refine lv_iload_n hx hb lx_d_1176 rfl (lv_at hl 0 rfl) ?_
  refine lv_iconst (v := 1) hx hb lx_d_1177 (by decide) ?_
  refine lv_iadd hx hb lx_d_1178 ?_
  refine va_sld hx hb hX hbl hbA w.2.2 hv.1 lx_d_1179 ?_
  refine lv_aload_n hx hb lx_d_1180 rfl (lv_at hl 3 rfl) ?_
  refine lv_iload_n hx hb lx_d_1181 rfl (lv_at hl 0 rfl) ?_
  refine lv_iconst (v := 2) hx hb lx_d_1182 (by decide) ?_
  refine lv_iadd hx hb lx_d_1183 ?_
  refine va_sld hx hb hX hbl hbA w.2.2 hv.2.1 lx_d_1184 ?_
  refine lv_aload_n hx hb lx_d_1185 rfl (lv_at hl 3 rfl) ?_
  refine lv_iload_n hx hb lx_d_1186 rfl (lv_at hl 0 rfl) ?_
  refine lv_iconst (v := 3) hx hb lx_d_1187 (by decide) ?_
  refine lv_iadd hx hb lx_d_1188 ?_
  refine va_sld hx hb hX hbl hbA w.2.2 hv.2.2.1 lx_d_1189 ?_
  refine lv_i2l (v := (xs (i3 + 3).toNatClampNeg).toInt64) hx hb lx_d_1190 rfl ?_
  refine lv_bipush (v := 32) hx hb lx_d_1191 (by decide) ?_
  refine lv_lshl (v := (xs (i3 + 3).toNatClampNeg).toInt64 <<< ((32 : Int32).toInt64 &&& 63)) hx hb lx_d_1193 rfl ?_
  refine lv_aload_n hx hb lx_d_1194 rfl (lv_at hl 3 rfl) ?_
  refine lv_iload_n hx hb lx_d_1195 rfl (lv_at hl 0 rfl) ?_
  refine lv_iconst (v := 4) hx hb lx_d_1196 (by decide) ?_
  refine lv_iadd hx hb lx_d_1197 ?_
  refine va_sld hx hb hX hbl hbA w.2.2 hv.2.2.2.1 lx_d_1198 ?_
  refine lv_i2l (v := (xs (i3 + 4).toNatClampNeg).toInt64) hx hb lx_d_1199 rfl ?_
  refine lv_ldc2 (v := 4294967295) hx hb hown (hts _ lx_ldc) lx_d_1200 ?_
  refine lv_land hx hb lx_d_1203 ?_
  refine lv_lor hx hb lx_d_1204 ?_
  refine lx_cM (rest := [.int r]) hx hb hml hown hts F w c2 rfl lx_m_put_w.1 lx_m_put_w.2.1 lx_m_put_w.2.2.1 lx_m_put_w.2.2.2 lx_m_put_c lx_m_put_y ⟨(Nat.le_of_ble_eq_true rfl), (Nat.le_of_ble_eq_true rfl)⟩ hcs hl.1 rfl (Nat.le_of_ble_eq_true rfl) rfl lx_d_1205 (fun H locs w => ?_)
  exact lv_icmp_eq (tgt := 1366) hx hb lx_d_1208 (by decide) (fun _ => kk _ _ _ _ hR2 w) (fun q => absurd rfl q)
theorem lx_c_element_w : Cond.methodLink R_law 155 y_Club_element ∈ lw_tbl ∧ Cond.instanceMethod y_Club_element ∈ lw_tbl ∧ Cond.selects y_Club_element.cls y_Club_element y_Club_element ∈ lw_tbl ∧ Cond.initialized y_Club_element.cls ∈ lw_tbl := ⟨List.mem_of_getElem? (i := 1256) (by decide +kernel), List.mem_of_getElem? (i := 1257) (by decide +kernel), List.mem_of_getElem? (i := 1258) (by decide +kernel), List.mem_of_getElem? (i := 83) (by decide +kernel)⟩
theorem lx_c_element_c : Cond.code y_Club_element prog_1_method_38_code 3 (some .long) ∈ am_T := am_in 1259 (by decide +kernel) (by decide +kernel)
theorem lx_c_element_y : y_Club_element.cls ≠ "java/lang/invoke/MethodHandle" ∧ y_Club_element.cls ≠ "java/lang/invoke/VarHandle" ∧ (parseMethodDescriptor y_Club_element.desc).map (fun d => d.parameters.length) = some 2 := ⟨by decide +kernel, by decide +kernel, by decide +kernel⟩
theorem lx_m_element_w : Cond.methodLink R_law 158 y_Model_element ∈ lw_tbl ∧ Cond.instanceMethod y_Model_element ∈ lw_tbl ∧ Cond.selects y_Model_element.cls y_Model_element y_Model_element ∈ lw_tbl ∧ Cond.initialized y_Model_element.cls ∈ lw_tbl := ⟨List.mem_of_getElem? (i := 1789) (by decide +kernel), List.mem_of_getElem? (i := 1790) (by decide +kernel), List.mem_of_getElem? (i := 1791) (by decide +kernel), List.mem_of_getElem? (i := 94) (by decide +kernel)⟩
theorem lx_m_element_c : Cond.code y_Model_element prog_12_method_93_code 3 (some .long) ∈ am_T := am_in 1792 (by decide +kernel) (by decide +kernel)
theorem lx_m_element_y : y_Model_element.cls ≠ "java/lang/invoke/MethodHandle" ∧ y_Model_element.cls ≠ "java/lang/invoke/VarHandle" ∧ (parseMethodDescriptor y_Model_element.desc).map (fun d => d.parameters.length) = some 2 := ⟨by decide +kernel, by decide +kernel, by decide +kernel⟩
theorem lx_s33 (C0 : lw_At p s m0 meth c b L xs) (F : lx_F s D g adx adm) (hR : Rel x m) (w : lx_W s D g adx adm H locs x m) (hv : lx_in i3 L) (hcs : cells ≤ room_1.cells ∧ slots ≤ room_1.slots) (hl : lv_has ls 4 [(3, .int i3), (2, .ref (adm 0)), (1, .ref (adx 0)), (0, .ref b)]) (kk : lx_K1 p l e s m0 b below meth c D g adx adm cells slots ls Q) : W p l e room_1 s m0 #[.ref b] below meth c H locs cells slots Q (F0 m0 1213 ls []) := by
  obtain ⟨hx, hb, hr, hml, hown, hts, hX, hbl, hlocks, hgv⟩ := C0
  have hbA : ¬ (fun q : Nat => s.heap.size ≤ q) b := Nat.not_le.mpr hbl
  obtain ⟨r, xx, mm, hR2, c1, c2⟩ := P_element hR (xs (i3 + 1).toNatClampNeg) (xs (i3 + 2).toNatClampNeg)
  refine lv_aload_n hx hb lx_d_1213 rfl (lv_at hl 2 rfl) ?_
  refine lv_aload_n hx hb lx_d_1214 rfl (lv_at hl 3 rfl) ?_
  refine lv_iload_n hx hb lx_d_1215 rfl (lv_at hl 0 rfl) ?_
  refine lv_iconst (v := 1) hx hb lx_d_1216 (by decide) ?_
  refine lv_iadd hx hb lx_d_1217 ?_
  refine va_sld hx hb hX hbl hbA w.2.2 hv.1 lx_d_1218 ?_
  refine lv_aload_n hx hb lx_d_1219 rfl (lv_at hl 3 rfl) ?_
  refine lv_iload_n hx hb lx_d_1220 rfl (lv_at hl 0 rfl) ?_
  refine lv_iconst (v := 2) hx hb lx_d_1221 (by decide) ?_
  refine lv_iadd hx hb lx_d_1222 ?_
  refine va_sld hx hb hX hbl hbA w.2.2 hv.2.1 lx_d_1223 ?_
  refine lx_cX (rest := []) hx hb hml hown hts F w c1 rfl lx_c_element_w.1 lx_c_element_w.2.1 lx_c_element_w.2.2.1 lx_c_element_w.2.2.2 lx_c_element_c lx_c_element_y ⟨(Nat.le_of_ble_eq_true rfl), (Nat.le_of_ble_eq_true rfl)⟩ hcs hl.1 rfl (Nat.le_of_ble_eq_true rfl) rfl lx_d_1224 (fun H locs w => ?_)
  refine lv_aload_n hx hb lx_d_1227 rfl (lv_at hl 1 rfl) ?_
  refine lv_aload_n hx hb lx_d_1228 rfl (lv_at hl 3 rfl) ?_
  refine lv_iload_n hx hb lx_d_1229 rfl (lv_at hl 0 rfl) ?_
  refine lv_iconst (v := 1) hx hb lx_d_1230 (by decide) ?_
  refine lv_iadd hx hb lx_d_1231 ?_
  refine va_sld hx hb hX hbl hbA w.2.2 hv.1 lx_d_1232 ?_
  refine lv_aload_n hx hb lx_d_1233 rfl (lv_at hl 3 rfl) ?_
  refine lv_iload_n hx hb lx_d_1234 rfl (lv_at hl 0 rfl) ?_
  refine lv_iconst (v := 2) hx hb lx_d_1235 (by decide) ?_
  refine lv_iadd hx hb lx_d_1236 ?_
  refine va_sld hx hb hX hbl hbA w.2.2 hv.2.1 lx_d_1237 ?_
  refine lx_cM (rest := [.long r]) hx hb hml hown hts F w c2 rfl lx_m_element_w.1 lx_m_element_w.2.1 lx_m_element_w.2.2.1 lx_m_element_w.2.2.2 lx_m_element_c lx_m_element_y ⟨(Nat.le_of_ble_eq_true rfl), (Nat.le_of_ble_eq_true rfl)⟩ hcs hl.1 rfl (Nat.le_of_ble_eq_true rfl) rfl lx_d_1238 (fun H locs w => ?_)
  refine W.lcmp hx hb lx_d_1241 ?_
  rw [lx_cmp]
  exact lv_if_eq (tgt := 1366) hx hb lx_d_1242 (by decide) (fun _ => kk _ _ _ _ hR2 w) (fun q => absurd rfl q)
theorem lx_c_shift_w : Cond.methodLink R_law 159 y_Club_shift ∈ lw_tbl ∧ Cond.instanceMethod y_Club_shift ∈ lw_tbl ∧ Cond.selects y_Club_shift.cls y_Club_shift y_Club_shift ∈ lw_tbl ∧ Cond.initialized y_Club_shift.cls ∈ lw_tbl := ⟨List.mem_of_getElem? (i := 1261) (by decide +kernel), List.mem_of_getElem? (i := 1262) (by decide +kernel), List.mem_of_getElem? (i := 1263) (by decide +kernel), List.mem_of_getElem? (i := 83) (by decide +kernel)⟩
theorem lx_c_shift_c : Cond.code y_Club_shift prog_1_method_39_code 8 (some .int) ∈ am_T := am_in 1264 (by decide +kernel) (by decide +kernel)
theorem lx_c_shift_y : y_Club_shift.cls ≠ "java/lang/invoke/MethodHandle" ∧ y_Club_shift.cls ≠ "java/lang/invoke/VarHandle" ∧ (parseMethodDescriptor y_Club_shift.desc).map (fun d => d.parameters.length) = some 5 := ⟨by decide +kernel, by decide +kernel, by decide +kernel⟩
theorem lx_m_shift_w : Cond.methodLink R_law 163 y_Model_shift ∈ lw_tbl ∧ Cond.instanceMethod y_Model_shift ∈ lw_tbl ∧ Cond.selects y_Model_shift.cls y_Model_shift y_Model_shift ∈ lw_tbl ∧ Cond.initialized y_Model_shift.cls ∈ lw_tbl := ⟨List.mem_of_getElem? (i := 1793) (by decide +kernel), List.mem_of_getElem? (i := 1794) (by decide +kernel), List.mem_of_getElem? (i := 1795) (by decide +kernel), List.mem_of_getElem? (i := 94) (by decide +kernel)⟩
theorem lx_m_shift_c : Cond.code y_Model_shift prog_12_method_94_code 7 (some .int) ∈ am_T := am_in 1796 (by decide +kernel) (by decide +kernel)
theorem lx_m_shift_y : y_Model_shift.cls ≠ "java/lang/invoke/MethodHandle" ∧ y_Model_shift.cls ≠ "java/lang/invoke/VarHandle" ∧ (parseMethodDescriptor y_Model_shift.desc).map (fun d => d.parameters.length) = some 5 := ⟨by decide +kernel, by decide +kernel, by decide +kernel⟩
theorem lx_s34 (C0 : lw_At p s m0 meth c b L xs) (F : lx_F s D g adx adm) (hR : Rel x m) (w : lx_W s D g adx adm H locs x m) (hv : lx_in i3 L) (hcs : cells ≤ room_1.cells ∧ slots ≤ room_1.slots) (hl : lv_has ls 4 [(3, .int i3), (2, .ref (adm 0)), (1, .ref (adx 0)), (0, .ref b)]) (kk : lx_K1 p l e s m0 b below meth c D g adx adm cells slots ls Q) : W p l e room_1 s m0 #[.ref b] below meth c H locs cells slots Q (F0 m0 1247 ls []) := by
  obtain ⟨hx, hb, hr, hml, hown, hts, hX, hbl, hlocks, hgv⟩ := C0
  have hbA : ¬ (fun q : Nat => s.heap.size ≤ q) b := Nat.not_le.mpr hbl
  obtain ⟨r, xx, mm, hR2, c1, c2⟩ := P_shift hR (xs (i3 + 1).toNatClampNeg) (xs (i3 + 2).toNatClampNeg) (xs (i3 + 3).toNatClampNeg) (xs (i3 + 4).toNatClampNeg) (xs (i3 + 5).toNatClampNeg)
  refine lv_aload_n hx hb lx_d_1247 rfl (lv_at hl 2 rfl) ?_
  refine lv_aload_n hx hb lx_d_1248 rfl (lv_at hl 3 rfl) ?_
  refine lv_iload_n hx hb lx_d_1249 rfl (lv_at hl 0 rfl) ?_
  refine lv_iconst (v := 1) hx hb lx_d_1250 (by decide) ?_
  refine lv_iadd hx hb lx_d_1251 ?_
  refine va_sld hx hb hX hbl hbA w.2.2 hv.1 lx_d_1252 ?_
  refine lv_aload_n hx hb lx_d_1253 rfl (lv_at hl 3 rfl) ?_
  refine lv_iload_n hx hb lx_d_1254 rfl (lv_at hl 0 rfl) ?_
  refine lv_iconst (v := 2) hx hb lx_d_1255 (by decide) ?_
  refine lv_iadd hx hb lx_d_1256 ?_
  refine va_sld hx hb hX hbl hbA w.2.2 hv.2.1 lx_d_1257 ?_
  refine lv_aload_n hx hb lx_d_1258 rfl (lv_at hl 3 rfl) ?_
  refine lv_iload_n hx hb lx_d_1259 rfl (lv_at hl 0 rfl) ?_
  refine lv_iconst (v := 3) hx hb lx_d_1260 (by decide) ?_
  refine lv_iadd hx hb lx_d_1261 ?_
  refine va_sld hx hb hX hbl hbA w.2.2 hv.2.2.1 lx_d_1262 ?_
  refine lv_aload_n hx hb lx_d_1263 rfl (lv_at hl 3 rfl) ?_
  refine lv_iload_n hx hb lx_d_1264 rfl (lv_at hl 0 rfl) ?_
  refine lv_iconst (v := 4) hx hb lx_d_1265 (by decide) ?_
  refine lv_iadd hx hb lx_d_1266 ?_
  refine va_sld hx hb hX hbl hbA w.2.2 hv.2.2.2.1 lx_d_1267 ?_
  refine lv_aload_n hx hb lx_d_1268 rfl (lv_at hl 3 rfl) ?_
  refine lv_iload_n hx hb lx_d_1269 rfl (lv_at hl 0 rfl) ?_
  refine lv_iconst (v := 5) hx hb lx_d_1270 (by decide) ?_
  refine lv_iadd hx hb lx_d_1271 ?_
  refine va_sld hx hb hX hbl hbA w.2.2 hv.2.2.2.2 lx_d_1272 ?_
  refine lx_cX (rest := []) hx hb hml hown hts F w c1 rfl lx_c_shift_w.1 lx_c_shift_w.2.1 lx_c_shift_w.2.2.1 lx_c_shift_w.2.2.2 lx_c_shift_c lx_c_shift_y ⟨(Nat.le_of_ble_eq_true rfl), (Nat.le_of_ble_eq_true rfl)⟩ hcs hl.1 rfl (Nat.le_of_ble_eq_true rfl) rfl lx_d_1273 (fun H locs w => ?_)
  refine lv_aload_n hx hb lx_d_1276 rfl (lv_at hl 1 rfl) ?_
  refine lv_aload_n hx hb lx_d_1277 rfl (lv_at hl 3 rfl) ?_
  refine lv_iload_n hx hb lx_d_1278 rfl (lv_at hl 0 rfl) ?_
  refine lv_iconst (v := 1) hx hb lx_d_1279 (by decide) ?_
  refine lv_iadd hx hb lx_d_1280 ?_
  refine va_sld hx hb hX hbl hbA w.2.2 hv.1 lx_d_1281 ?_
  refine lv_aload_n hx hb lx_d_1282 rfl (lv_at hl 3 rfl) ?_
  refine lv_iload_n hx hb lx_d_1283 rfl (lv_at hl 0 rfl) ?_
  refine lv_iconst (v := 2) hx hb lx_d_1284 (by decide) ?_
  refine lv_iadd hx hb lx_d_1285 ?_
  refine va_sld hx hb hX hbl hbA w.2.2 hv.2.1 lx_d_1286 ?_
  refine lv_aload_n hx hb lx_d_1287 rfl (lv_at hl 3 rfl) ?_
  refine lv_iload_n hx hb lx_d_1288 rfl (lv_at hl 0 rfl) ?_
  refine lv_iconst (v := 3) hx hb lx_d_1289 (by decide) ?_
  refine lv_iadd hx hb lx_d_1290 ?_
  refine va_sld hx hb hX hbl hbA w.2.2 hv.2.2.1 lx_d_1291 ?_
  refine lv_aload_n hx hb lx_d_1292 rfl (lv_at hl 3 rfl) ?_
  refine lv_iload_n hx hb lx_d_1293 rfl (lv_at hl 0 rfl) ?_
  refine lv_iconst (v := 4) hx hb lx_d_1294 (by decide) ?_
  refine lv_iadd hx hb lx_d_1295 ?_
  refine va_sld hx hb hX hbl hbA w.2.2 hv.2.2.2.1 lx_d_1296 ?_
  refine lv_aload_n hx hb lx_d_1297 rfl (lv_at hl 3 rfl) ?_
  refine lv_iload_n hx hb lx_d_1298 rfl (lv_at hl 0 rfl) ?_
  refine lv_iconst (v := 5) hx hb lx_d_1299 (by decide) ?_
  refine lv_iadd hx hb lx_d_1300 ?_
  refine va_sld hx hb hX hbl hbA w.2.2 hv.2.2.2.2 lx_d_1301 ?_
  refine lx_cM (rest := [.int r]) hx hb hml hown hts F w c2 rfl lx_m_shift_w.1 lx_m_shift_w.2.1 lx_m_shift_w.2.2.1 lx_m_shift_w.2.2.2 lx_m_shift_c lx_m_shift_y ⟨(Nat.le_of_ble_eq_true rfl), (Nat.le_of_ble_eq_true rfl)⟩ hcs hl.1 rfl (Nat.le_of_ble_eq_true rfl) rfl lx_d_1302 (fun H locs w => ?_)
  exact lv_icmp_eq (tgt := 1366) hx hb lx_d_1305 (by decide) (fun _ => kk _ _ _ _ hR2 w) (fun q => absurd rfl q)
theorem lx_c_taken_w : Cond.methodLink R_law 164 y_Club_taken ∈ lw_tbl ∧ Cond.instanceMethod y_Club_taken ∈ lw_tbl ∧ Cond.selects y_Club_taken.cls y_Club_taken y_Club_taken ∈ lw_tbl ∧ Cond.initialized y_Club_taken.cls ∈ lw_tbl := ⟨List.mem_of_getElem? (i := 1275) (by decide +kernel), List.mem_of_getElem? (i := 1276) (by decide +kernel), List.mem_of_getElem? (i := 1277) (by decide +kernel), List.mem_of_getElem? (i := 83) (by decide +kernel)⟩
theorem lx_c_taken_c : Cond.code y_Club_taken prog_1_method_40_code 5 (some .int) ∈ am_T := am_in 1278 (by decide +kernel) (by decide +kernel)
theorem lx_c_taken_y : y_Club_taken.cls ≠ "java/lang/invoke/MethodHandle" ∧ y_Club_taken.cls ≠ "java/lang/invoke/VarHandle" ∧ (parseMethodDescriptor y_Club_taken.desc).map (fun d => d.parameters.length) = some 2 := ⟨by decide +kernel, by decide +kernel, by decide +kernel⟩
theorem lx_m_taken_w : Cond.methodLink R_law 167 y_Model_taken ∈ lw_tbl ∧ Cond.instanceMethod y_Model_taken ∈ lw_tbl ∧ Cond.selects y_Model_taken.cls y_Model_taken y_Model_taken ∈ lw_tbl ∧ Cond.initialized y_Model_taken.cls ∈ lw_tbl := ⟨List.mem_of_getElem? (i := 1797) (by decide +kernel), List.mem_of_getElem? (i := 1798) (by decide +kernel), List.mem_of_getElem? (i := 1799) (by decide +kernel), List.mem_of_getElem? (i := 94) (by decide +kernel)⟩
theorem lx_m_taken_c : Cond.code y_Model_taken prog_12_method_95_code 4 (some .int) ∈ am_T := am_in 1800 (by decide +kernel) (by decide +kernel)
theorem lx_m_taken_y : y_Model_taken.cls ≠ "java/lang/invoke/MethodHandle" ∧ y_Model_taken.cls ≠ "java/lang/invoke/VarHandle" ∧ (parseMethodDescriptor y_Model_taken.desc).map (fun d => d.parameters.length) = some 2 := ⟨by decide +kernel, by decide +kernel, by decide +kernel⟩
theorem lx_s35 (C0 : lw_At p s m0 meth c b L xs) (F : lx_F s D g adx adm) (hR : Rel x m) (w : lx_W s D g adx adm H locs x m) (hv : lx_in i3 L) (hcs : cells ≤ room_1.cells ∧ slots ≤ room_1.slots) (hl : lv_has ls 4 [(3, .int i3), (2, .ref (adm 0)), (1, .ref (adx 0)), (0, .ref b)]) (kk : lx_K1 p l e s m0 b below meth c D g adx adm cells slots ls Q) : W p l e room_1 s m0 #[.ref b] below meth c H locs cells slots Q (F0 m0 1310 ls []) := by
  obtain ⟨hx, hb, hr, hml, hown, hts, hX, hbl, hlocks, hgv⟩ := C0
  have hbA : ¬ (fun q : Nat => s.heap.size ≤ q) b := Nat.not_le.mpr hbl
  obtain ⟨r, xx, mm, hR2, c1, c2⟩ := P_taken hR (xs (i3 + 1).toNatClampNeg) (xs (i3 + 2).toNatClampNeg)
  refine lv_aload_n hx hb lx_d_1310 rfl (lv_at hl 2 rfl) ?_
  refine lv_aload_n hx hb lx_d_1311 rfl (lv_at hl 3 rfl) ?_
  refine lv_iload_n hx hb lx_d_1312 rfl (lv_at hl 0 rfl) ?_
  refine lv_iconst (v := 1) hx hb lx_d_1313 (by decide) ?_
  refine lv_iadd hx hb lx_d_1314 ?_
  refine va_sld hx hb hX hbl hbA w.2.2 hv.1 lx_d_1315 ?_
  refine lv_aload_n hx hb lx_d_1316 rfl (lv_at hl 3 rfl) ?_
  refine lv_iload_n hx hb lx_d_1317 rfl (lv_at hl 0 rfl) ?_
  refine lv_iconst (v := 2) hx hb lx_d_1318 (by decide) ?_
  refine lv_iadd hx hb lx_d_1319 ?_
  refine va_sld hx hb hX hbl hbA w.2.2 hv.2.1 lx_d_1320 ?_
  refine lx_cX (rest := []) hx hb hml hown hts F w c1 rfl lx_c_taken_w.1 lx_c_taken_w.2.1 lx_c_taken_w.2.2.1 lx_c_taken_w.2.2.2 lx_c_taken_c lx_c_taken_y ⟨(Nat.le_of_ble_eq_true rfl), (Nat.le_of_ble_eq_true rfl)⟩ hcs hl.1 rfl (Nat.le_of_ble_eq_true rfl) rfl lx_d_1321 (fun H locs w => ?_)
  refine lv_aload_n hx hb lx_d_1324 rfl (lv_at hl 1 rfl) ?_
  refine lv_aload_n hx hb lx_d_1325 rfl (lv_at hl 3 rfl) ?_
  refine lv_iload_n hx hb lx_d_1326 rfl (lv_at hl 0 rfl) ?_
  refine lv_iconst (v := 1) hx hb lx_d_1327 (by decide) ?_
  refine lv_iadd hx hb lx_d_1328 ?_
  refine va_sld hx hb hX hbl hbA w.2.2 hv.1 lx_d_1329 ?_
  refine lv_aload_n hx hb lx_d_1330 rfl (lv_at hl 3 rfl) ?_
  refine lv_iload_n hx hb lx_d_1331 rfl (lv_at hl 0 rfl) ?_
  refine lv_iconst (v := 2) hx hb lx_d_1332 (by decide) ?_
  refine lv_iadd hx hb lx_d_1333 ?_
  refine va_sld hx hb hX hbl hbA w.2.2 hv.2.1 lx_d_1334 ?_
  refine lx_cM (rest := [.int r]) hx hb hml hown hts F w c2 rfl lx_m_taken_w.1 lx_m_taken_w.2.1 lx_m_taken_w.2.2.1 lx_m_taken_w.2.2.2 lx_m_taken_c lx_m_taken_y ⟨(Nat.le_of_ble_eq_true rfl), (Nat.le_of_ble_eq_true rfl)⟩ hcs hl.1 rfl (Nat.le_of_ble_eq_true rfl) rfl lx_d_1335 (fun H locs w => ?_)
  exact lv_icmp_eq (tgt := 1366) hx hb lx_d_1338 (by decide) (fun _ => kk _ _ _ _ hR2 w) (fun q => absurd rfl q)
theorem lx_c_count_w : Cond.methodLink R_law 168 y_Club_count ∈ lw_tbl ∧ Cond.instanceMethod y_Club_count ∈ lw_tbl ∧ Cond.selects y_Club_count.cls y_Club_count y_Club_count ∈ lw_tbl ∧ Cond.initialized y_Club_count.cls ∈ lw_tbl := ⟨List.mem_of_getElem? (i := 1287) (by decide +kernel), List.mem_of_getElem? (i := 1288) (by decide +kernel), List.mem_of_getElem? (i := 1289) (by decide +kernel), List.mem_of_getElem? (i := 83) (by decide +kernel)⟩
theorem lx_c_count_c : Cond.code y_Club_count prog_1_method_41_code 2 (some .int) ∈ am_T := am_in 1290 (by decide +kernel) (by decide +kernel)
theorem lx_c_count_y : y_Club_count.cls ≠ "java/lang/invoke/MethodHandle" ∧ y_Club_count.cls ≠ "java/lang/invoke/VarHandle" ∧ (parseMethodDescriptor y_Club_count.desc).map (fun d => d.parameters.length) = some 1 := ⟨by decide +kernel, by decide +kernel, by decide +kernel⟩
theorem lx_m_count_w : Cond.methodLink R_law 171 y_Model_count ∈ lw_tbl ∧ Cond.instanceMethod y_Model_count ∈ lw_tbl ∧ Cond.selects y_Model_count.cls y_Model_count y_Model_count ∈ lw_tbl ∧ Cond.initialized y_Model_count.cls ∈ lw_tbl := ⟨List.mem_of_getElem? (i := 1808) (by decide +kernel), List.mem_of_getElem? (i := 1809) (by decide +kernel), List.mem_of_getElem? (i := 1810) (by decide +kernel), List.mem_of_getElem? (i := 94) (by decide +kernel)⟩
theorem lx_m_count_c : Cond.code y_Model_count prog_12_method_96_code 2 (some .int) ∈ am_T := am_in 1811 (by decide +kernel) (by decide +kernel)
theorem lx_m_count_y : y_Model_count.cls ≠ "java/lang/invoke/MethodHandle" ∧ y_Model_count.cls ≠ "java/lang/invoke/VarHandle" ∧ (parseMethodDescriptor y_Model_count.desc).map (fun d => d.parameters.length) = some 1 := ⟨by decide +kernel, by decide +kernel, by decide +kernel⟩
theorem lx_s36 (C0 : lw_At p s m0 meth c b L xs) (F : lx_F s D g adx adm) (hR : Rel x m) (w : lx_W s D g adx adm H locs x m) (hv : lx_in i3 L) (hcs : cells ≤ room_1.cells ∧ slots ≤ room_1.slots) (hl : lv_has ls 4 [(3, .int i3), (2, .ref (adm 0)), (1, .ref (adx 0)), (0, .ref b)]) (kk : lx_K1 p l e s m0 b below meth c D g adx adm cells slots ls Q) : W p l e room_1 s m0 #[.ref b] below meth c H locs cells slots Q (F0 m0 1343 ls []) := by
  obtain ⟨hx, hb, hr, hml, hown, hts, hX, hbl, hlocks, hgv⟩ := C0
  have hbA : ¬ (fun q : Nat => s.heap.size ≤ q) b := Nat.not_le.mpr hbl
  obtain ⟨r, xx, mm, hR2, c1, c2⟩ := P_count hR (xs (i3 + 1).toNatClampNeg)
  refine lv_aload_n hx hb lx_d_1343 rfl (lv_at hl 2 rfl) ?_
  refine lv_aload_n hx hb lx_d_1344 rfl (lv_at hl 3 rfl) ?_
  refine lv_iload_n hx hb lx_d_1345 rfl (lv_at hl 0 rfl) ?_
  refine lv_iconst (v := 1) hx hb lx_d_1346 (by decide) ?_
  refine lv_iadd hx hb lx_d_1347 ?_
  refine va_sld hx hb hX hbl hbA w.2.2 hv.1 lx_d_1348 ?_
  refine lx_cX (rest := []) hx hb hml hown hts F w c1 rfl lx_c_count_w.1 lx_c_count_w.2.1 lx_c_count_w.2.2.1 lx_c_count_w.2.2.2 lx_c_count_c lx_c_count_y ⟨(Nat.le_of_ble_eq_true rfl), (Nat.le_of_ble_eq_true rfl)⟩ hcs hl.1 rfl (Nat.le_of_ble_eq_true rfl) rfl lx_d_1349 (fun H locs w => ?_)
  refine lv_aload_n hx hb lx_d_1352 rfl (lv_at hl 1 rfl) ?_
  refine lv_aload_n hx hb lx_d_1353 rfl (lv_at hl 3 rfl) ?_
  refine lv_iload_n hx hb lx_d_1354 rfl (lv_at hl 0 rfl) ?_
  refine lv_iconst (v := 1) hx hb lx_d_1355 (by decide) ?_
  refine lv_iadd hx hb lx_d_1356 ?_
  refine va_sld hx hb hX hbl hbA w.2.2 hv.1 lx_d_1357 ?_
  refine lx_cM (rest := [.int r]) hx hb hml hown hts F w c2 rfl lx_m_count_w.1 lx_m_count_w.2.1 lx_m_count_w.2.2.1 lx_m_count_w.2.2.2 lx_m_count_c lx_m_count_y ⟨(Nat.le_of_ble_eq_true rfl), (Nat.le_of_ble_eq_true rfl)⟩ hcs hl.1 rfl (Nat.le_of_ble_eq_true rfl) rfl lx_d_1358 (fun H locs w => ?_)
  exact lv_icmp_eq (tgt := 1366) hx hb lx_d_1361 (by decide) (fun _ => kk _ _ _ _ hR2 w) (fun q => absurd rfl q)
end Lc
