/-! the cases of the law (by gen72.py) -/
def lx_in (i3 : Int32) (L : Nat) : Prop := vp_in (i3 + 1) L ∧ vp_in (i3 + 2) L ∧ vp_in (i3 + 3) L ∧ vp_in (i3 + 4) L ∧ vp_in (i3 + 5) L
def lx_K1 (p : Program) (l : Launch) (e : Env) (s : State) (m0 : MethodId) (b : Nat) (below : List Frame) (meth : Method) (c : Code) (D : va_G) (g : am_G) (adx adm : Nat → Nat) (cells slots : Nat) (ls : Array Slot) (Q : State → Prop) : Prop := ∀ (x m : am_H) (H : Heap) (locs : List Loc), Rel x m → lx_W s D g adx adm H locs x m → W p l e room_1 s m0 #[.ref b] below meth c H locs cells slots Q (F0 m0 1366 ls [])
theorem lx_cmp (x : Int64) : lg_cmp x x = 0 := by simp [lg_cmp]
theorem lx_ldc : Cond.constantLong R_law 148 4294967295 ∈ lw_tbl := List.mem_of_getElem? (i := 1816) (by decide +kernel)
section Lc
variable {p : Program} {l : Launch} {e : Env} {s : State} {m0 : MethodId} {below : List Frame} {meth : Method} {c : Code} {H : Heap} {locs : List Loc} {cells slots : Nat} {ls : Array Slot} {Q : State → Prop} {D : va_G} {g : am_G} {adx adm : Nat → Nat} {x m : am_H} {b L : Nat} {xs : Nat → Int32} {i3 : Int32}
theorem lx_c_club_w : Cond.methodLink R_law 13 y_Club_club ∈ lw_tbl ∧ Cond.instanceMethod y_Club_club ∈ lw_tbl ∧ Cond.selects y_Club_club.cls y_Club_club y_Club_club ∈ lw_tbl ∧ Cond.initialized y_Club_club.cls ∈ lw_tbl := ⟨List.mem_of_getElem? (i := 390) (by decide +kernel), List.mem_of_getElem? (i := 391) (by decide +kernel), List.mem_of_getElem? (i := 392) (by decide +kernel), List.mem_of_getElem? (i := 83) (by decide +kernel)⟩
theorem lx_c_club_c : Cond.code y_Club_club prog_1_method_2_code 2 (some .int) ∈ am_T := am_in 393 (by decide +kernel) (by decide +kernel)
theorem lx_c_club_y : y_Club_club.cls ≠ "java/lang/invoke/MethodHandle" ∧ y_Club_club.cls ≠ "java/lang/invoke/VarHandle" ∧ (parseMethodDescriptor y_Club_club.desc).map (fun d => d.parameters.length) = some 1 := ⟨by decide +kernel, by decide +kernel, by decide +kernel⟩
theorem lx_m_club_w : Cond.methodLink R_law 17 y_Model_club ∈ lw_tbl ∧ Cond.instanceMethod y_Model_club ∈ lw_tbl ∧ Cond.selects y_Model_club.cls y_Model_club y_Model_club ∈ lw_tbl ∧ Cond.initialized y_Model_club.cls ∈ lw_tbl := ⟨List.mem_of_getElem? (i := 1435) (by decide +kernel), List.mem_of_getElem? (i := 1436) (by decide +kernel), List.mem_of_getElem? (i := 1437) (by decide +kernel), List.mem_of_getElem? (i := 94) (by decide +kernel)⟩
theorem lx_m_club_c : Cond.code y_Model_club prog_12_method_13_code 2 (some .int) ∈ am_T := am_in 1438 (by decide +kernel) (by decide +kernel)
theorem lx_m_club_y : y_Model_club.cls ≠ "java/lang/invoke/MethodHandle" ∧ y_Model_club.cls ≠ "java/lang/invoke/VarHandle" ∧ (parseMethodDescriptor y_Model_club.desc).map (fun d => d.parameters.length) = some 1 := ⟨by decide +kernel, by decide +kernel, by decide +kernel⟩
theorem lx_s0 (C0 : lw_At p s m0 meth c b L xs) (F : lx_F s D g adx adm) (hR : Rel x m) (w : lx_W s D g adx adm H locs x m) (hv : lx_in i3 L) (hcs : cells ≤ room_1.cells ∧ slots ≤ room_1.slots) (hl : lv_has ls 4 [(3, .int i3), (2, .ref (adm 0)), (1, .ref (adx 0)), (0, .ref b)]) (kk : lx_K1 p l e s m0 b below meth c D g adx adm cells slots ls Q) : W p l e room_1 s m0 #[.ref b] below meth c H locs cells slots Q (F0 m0 196 ls []) := by
  obtain ⟨hx, hb, hr, hml, hown, hts, hX, hbl, hlocks, hgv⟩ := C0
  have hbA : ¬ (fun q : Nat => s.heap.size ≤ q) b := Nat.not_le.mpr hbl
  obtain ⟨r, xx, mm, hR2, c1, c2⟩ := P_club hR (xs (i3 + 1).toNatClampNeg)
  refine lv_aload_n hx hb lx_d_196 rfl (lv_at hl 2 rfl) ?_
  refine lv_aload_n hx hb lx_d_197 rfl (lv_at hl 3 rfl) ?_
  refine lv_iload_n hx hb lx_d_198 rfl (lv_at hl 0 rfl) ?_
  refine lv_iconst (v := 1) hx hb lx_d_199 (by decide) ?_
  refine lv_iadd hx hb lx_d_200 ?_
  refine va_sld hx hb hX hbl hbA w.2.2 hv.1 lx_d_201 ?_
  refine lx_cX (rest := []) hx hb hml hown hts F w c1 rfl lx_c_club_w.1 lx_c_club_w.2.1 lx_c_club_w.2.2.1 lx_c_club_w.2.2.2 lx_c_club_c lx_c_club_y ⟨(Nat.le_of_ble_eq_true rfl), (Nat.le_of_ble_eq_true rfl)⟩ hcs hl.1 rfl (Nat.le_of_ble_eq_true rfl) rfl lx_d_202 (fun H locs w => ?_)
  refine lv_aload_n hx hb lx_d_205 rfl (lv_at hl 1 rfl) ?_
  refine lv_aload_n hx hb lx_d_206 rfl (lv_at hl 3 rfl) ?_
  refine lv_iload_n hx hb lx_d_207 rfl (lv_at hl 0 rfl) ?_
  refine lv_iconst (v := 1) hx hb lx_d_208 (by decide) ?_
  refine lv_iadd hx hb lx_d_209 ?_
  refine va_sld hx hb hX hbl hbA w.2.2 hv.1 lx_d_210 ?_
  refine lx_cM (rest := [.int r]) hx hb hml hown hts F w c2 rfl lx_m_club_w.1 lx_m_club_w.2.1 lx_m_club_w.2.2.1 lx_m_club_w.2.2.2 lx_m_club_c lx_m_club_y ⟨(Nat.le_of_ble_eq_true rfl), (Nat.le_of_ble_eq_true rfl)⟩ hcs hl.1 rfl (Nat.le_of_ble_eq_true rfl) rfl lx_d_211 (fun H locs w => ?_)
  exact lv_icmp_eq (tgt := 1366) hx hb lx_d_214 (by decide) (fun _ => kk _ _ _ _ hR2 w) (fun q => absurd rfl q)
theorem lx_c_clubs_w : Cond.methodLink R_law 18 y_Club_clubs ∈ lw_tbl ∧ Cond.instanceMethod y_Club_clubs ∈ lw_tbl ∧ Cond.selects y_Club_clubs.cls y_Club_clubs y_Club_clubs ∈ lw_tbl ∧ Cond.initialized y_Club_clubs.cls ∈ lw_tbl := ⟨List.mem_of_getElem? (i := 427) (by decide +kernel), List.mem_of_getElem? (i := 428) (by decide +kernel), List.mem_of_getElem? (i := 429) (by decide +kernel), List.mem_of_getElem? (i := 83) (by decide +kernel)⟩
theorem lx_c_clubs_c : Cond.code y_Club_clubs prog_1_method_3_code 5 (some .int) ∈ am_T := am_in 430 (by decide +kernel) (by decide +kernel)
theorem lx_c_clubs_y : y_Club_clubs.cls ≠ "java/lang/invoke/MethodHandle" ∧ y_Club_clubs.cls ≠ "java/lang/invoke/VarHandle" ∧ (parseMethodDescriptor y_Club_clubs.desc).map (fun d => d.parameters.length) = some 3 := ⟨by decide +kernel, by decide +kernel, by decide +kernel⟩
theorem lx_m_clubs_w : Cond.methodLink R_law 22 y_Model_clubs ∈ lw_tbl ∧ Cond.instanceMethod y_Model_clubs ∈ lw_tbl ∧ Cond.selects y_Model_clubs.cls y_Model_clubs y_Model_clubs ∈ lw_tbl ∧ Cond.initialized y_Model_clubs.cls ∈ lw_tbl := ⟨List.mem_of_getElem? (i := 1451) (by decide +kernel), List.mem_of_getElem? (i := 1452) (by decide +kernel), List.mem_of_getElem? (i := 1453) (by decide +kernel), List.mem_of_getElem? (i := 94) (by decide +kernel)⟩
theorem lx_m_clubs_c : Cond.code y_Model_clubs prog_12_method_14_code 7 (some .int) ∈ am_T := am_in 1454 (by decide +kernel) (by decide +kernel)
theorem lx_m_clubs_y : y_Model_clubs.cls ≠ "java/lang/invoke/MethodHandle" ∧ y_Model_clubs.cls ≠ "java/lang/invoke/VarHandle" ∧ (parseMethodDescriptor y_Model_clubs.desc).map (fun d => d.parameters.length) = some 3 := ⟨by decide +kernel, by decide +kernel, by decide +kernel⟩
theorem lx_s1 (C0 : lw_At p s m0 meth c b L xs) (F : lx_F s D g adx adm) (hR : Rel x m) (w : lx_W s D g adx adm H locs x m) (hv : lx_in i3 L) (hcs : cells ≤ room_1.cells ∧ slots ≤ room_1.slots) (hl : lv_has ls 4 [(3, .int i3), (2, .ref (adm 0)), (1, .ref (adx 0)), (0, .ref b)]) (kk : lx_K1 p l e s m0 b below meth c D g adx adm cells slots ls Q) : W p l e room_1 s m0 #[.ref b] below meth c H locs cells slots Q (F0 m0 219 ls []) := by
  obtain ⟨hx, hb, hr, hml, hown, hts, hX, hbl, hlocks, hgv⟩ := C0
  have hbA : ¬ (fun q : Nat => s.heap.size ≤ q) b := Nat.not_le.mpr hbl
  obtain ⟨r, xx, mm, hR2, c1, c2⟩ := P_clubs hR (xs (i3 + 1).toNatClampNeg) (xs (i3 + 2).toNatClampNeg) (xs (i3 + 3).toNatClampNeg)
  refine lv_aload_n hx hb lx_d_219 rfl (lv_at hl 2 rfl) ?_
  refine lv_aload_n hx hb lx_d_220 rfl (lv_at hl 3 rfl) ?_
  refine lv_iload_n hx hb lx_d_221 rfl (lv_at hl 0 rfl) ?_
  refine lv_iconst (v := 1) hx hb lx_d_222 (by decide) ?_
  refine lv_iadd hx hb lx_d_223 ?_
  refine va_sld hx hb hX hbl hbA w.2.2 hv.1 lx_d_224 ?_
  refine lv_aload_n hx hb lx_d_225 rfl (lv_at hl 3 rfl) ?_
  refine lv_iload_n hx hb lx_d_226 rfl (lv_at hl 0 rfl) ?_
  refine lv_iconst (v := 2) hx hb lx_d_227 (by decide) ?_
  refine lv_iadd hx hb lx_d_228 ?_
  refine va_sld hx hb hX hbl hbA w.2.2 hv.2.1 lx_d_229 ?_
  refine lv_aload_n hx hb lx_d_230 rfl (lv_at hl 3 rfl) ?_
  refine lv_iload_n hx hb lx_d_231 rfl (lv_at hl 0 rfl) ?_
  refine lv_iconst (v := 3) hx hb lx_d_232 (by decide) ?_
  refine lv_iadd hx hb lx_d_233 ?_
  refine va_sld hx hb hX hbl hbA w.2.2 hv.2.2.1 lx_d_234 ?_
  refine lx_cX (rest := []) hx hb hml hown hts F w c1 rfl lx_c_clubs_w.1 lx_c_clubs_w.2.1 lx_c_clubs_w.2.2.1 lx_c_clubs_w.2.2.2 lx_c_clubs_c lx_c_clubs_y ⟨(Nat.le_of_ble_eq_true rfl), (Nat.le_of_ble_eq_true rfl)⟩ hcs hl.1 rfl (Nat.le_of_ble_eq_true rfl) rfl lx_d_235 (fun H locs w => ?_)
  refine lv_aload_n hx hb lx_d_238 rfl (lv_at hl 1 rfl) ?_
  refine lv_aload_n hx hb lx_d_239 rfl (lv_at hl 3 rfl) ?_
  refine lv_iload_n hx hb lx_d_240 rfl (lv_at hl 0 rfl) ?_
  refine lv_iconst (v := 1) hx hb lx_d_241 (by decide) ?_
  refine lv_iadd hx hb lx_d_242 ?_
  refine va_sld hx hb hX hbl hbA w.2.2 hv.1 lx_d_243 ?_
  refine lv_aload_n hx hb lx_d_244 rfl (lv_at hl 3 rfl) ?_
  refine lv_iload_n hx hb lx_d_245 rfl (lv_at hl 0 rfl) ?_
  refine lv_iconst (v := 2) hx hb lx_d_246 (by decide) ?_
  refine lv_iadd hx hb lx_d_247 ?_
  refine va_sld hx hb hX hbl hbA w.2.2 hv.2.1 lx_d_248 ?_
  refine lv_aload_n hx hb lx_d_249 rfl (lv_at hl 3 rfl) ?_
  refine lv_iload_n hx hb lx_d_250 rfl (lv_at hl 0 rfl) ?_
  refine lv_iconst (v := 3) hx hb lx_d_251 (by decide) ?_
  refine lv_iadd hx hb lx_d_252 ?_
  refine va_sld hx hb hX hbl hbA w.2.2 hv.2.2.1 lx_d_253 ?_
  refine lx_cM (rest := [.int r]) hx hb hml hown hts F w c2 rfl lx_m_clubs_w.1 lx_m_clubs_w.2.1 lx_m_clubs_w.2.2.1 lx_m_clubs_w.2.2.2 lx_m_clubs_c lx_m_clubs_y ⟨(Nat.le_of_ble_eq_true rfl), (Nat.le_of_ble_eq_true rfl)⟩ hcs hl.1 rfl (Nat.le_of_ble_eq_true rfl) rfl lx_d_254 (fun H locs w => ?_)
  exact lv_icmp_eq (tgt := 1366) hx hb lx_d_257 (by decide) (fun _ => kk _ _ _ _ hR2 w) (fun q => absurd rfl q)
theorem lx_c_mend_w : Cond.methodLink R_law 23 y_Club_mend ∈ lw_tbl ∧ Cond.instanceMethod y_Club_mend ∈ lw_tbl ∧ Cond.selects y_Club_mend.cls y_Club_mend y_Club_mend ∈ lw_tbl ∧ Cond.initialized y_Club_mend.cls ∈ lw_tbl := ⟨List.mem_of_getElem? (i := 460) (by decide +kernel), List.mem_of_getElem? (i := 461) (by decide +kernel), List.mem_of_getElem? (i := 462) (by decide +kernel), List.mem_of_getElem? (i := 83) (by decide +kernel)⟩
theorem lx_c_mend_c : Cond.code y_Club_mend prog_1_method_4_code 5 (some .int) ∈ am_T := am_in 463 (by decide +kernel) (by decide +kernel)
theorem lx_c_mend_y : y_Club_mend.cls ≠ "java/lang/invoke/MethodHandle" ∧ y_Club_mend.cls ≠ "java/lang/invoke/VarHandle" ∧ (parseMethodDescriptor y_Club_mend.desc).map (fun d => d.parameters.length) = some 3 := ⟨by decide +kernel, by decide +kernel, by decide +kernel⟩
theorem lx_m_mend_w : Cond.methodLink R_law 26 y_Model_mend ∈ lw_tbl ∧ Cond.instanceMethod y_Model_mend ∈ lw_tbl ∧ Cond.selects y_Model_mend.cls y_Model_mend y_Model_mend ∈ lw_tbl ∧ Cond.initialized y_Model_mend.cls ∈ lw_tbl := ⟨List.mem_of_getElem? (i := 1461) (by decide +kernel), List.mem_of_getElem? (i := 1462) (by decide +kernel), List.mem_of_getElem? (i := 1463) (by decide +kernel), List.mem_of_getElem? (i := 94) (by decide +kernel)⟩
theorem lx_m_mend_c : Cond.code y_Model_mend prog_12_method_17_code 5 (some .int) ∈ am_T := am_in 1464 (by decide +kernel) (by decide +kernel)
theorem lx_m_mend_y : y_Model_mend.cls ≠ "java/lang/invoke/MethodHandle" ∧ y_Model_mend.cls ≠ "java/lang/invoke/VarHandle" ∧ (parseMethodDescriptor y_Model_mend.desc).map (fun d => d.parameters.length) = some 3 := ⟨by decide +kernel, by decide +kernel, by decide +kernel⟩
theorem lx_s2 (C0 : lw_At p s m0 meth c b L xs) (F : lx_F s D g adx adm) (hR : Rel x m) (w : lx_W s D g adx adm H locs x m) (hv : lx_in i3 L) (hcs : cells ≤ room_1.cells ∧ slots ≤ room_1.slots) (hl : lv_has ls 4 [(3, .int i3), (2, .ref (adm 0)), (1, .ref (adx 0)), (0, .ref b)]) (kk : lx_K1 p l e s m0 b below meth c D g adx adm cells slots ls Q) : W p l e room_1 s m0 #[.ref b] below meth c H locs cells slots Q (F0 m0 262 ls []) := by
  obtain ⟨hx, hb, hr, hml, hown, hts, hX, hbl, hlocks, hgv⟩ := C0
  have hbA : ¬ (fun q : Nat => s.heap.size ≤ q) b := Nat.not_le.mpr hbl
  obtain ⟨r, xx, mm, hR2, c1, c2⟩ := P_mend hR (xs (i3 + 1).toNatClampNeg) (xs (i3 + 2).toNatClampNeg) (xs (i3 + 3).toNatClampNeg)
  refine lv_aload_n hx hb lx_d_262 rfl (lv_at hl 2 rfl) ?_
  refine lv_aload_n hx hb lx_d_263 rfl (lv_at hl 3 rfl) ?_
  refine lv_iload_n hx hb lx_d_264 rfl (lv_at hl 0 rfl) ?_
  refine lv_iconst (v := 1) hx hb lx_d_265 (by decide) ?_
  refine lv_iadd hx hb lx_d_266 ?_
  refine va_sld hx hb hX hbl hbA w.2.2 hv.1 lx_d_267 ?_
  refine lv_aload_n hx hb lx_d_268 rfl (lv_at hl 3 rfl) ?_
  refine lv_iload_n hx hb lx_d_269 rfl (lv_at hl 0 rfl) ?_
  refine lv_iconst (v := 2) hx hb lx_d_270 (by decide) ?_
  refine lv_iadd hx hb lx_d_271 ?_
  refine va_sld hx hb hX hbl hbA w.2.2 hv.2.1 lx_d_272 ?_
  refine lv_aload_n hx hb lx_d_273 rfl (lv_at hl 3 rfl) ?_
  refine lv_iload_n hx hb lx_d_274 rfl (lv_at hl 0 rfl) ?_
  refine lv_iconst (v := 3) hx hb lx_d_275 (by decide) ?_
  refine lv_iadd hx hb lx_d_276 ?_
  refine va_sld hx hb hX hbl hbA w.2.2 hv.2.2.1 lx_d_277 ?_
  refine lx_cX (rest := []) hx hb hml hown hts F w c1 rfl lx_c_mend_w.1 lx_c_mend_w.2.1 lx_c_mend_w.2.2.1 lx_c_mend_w.2.2.2 lx_c_mend_c lx_c_mend_y ⟨(Nat.le_of_ble_eq_true rfl), (Nat.le_of_ble_eq_true rfl)⟩ hcs hl.1 rfl (Nat.le_of_ble_eq_true rfl) rfl lx_d_278 (fun H locs w => ?_)
  refine lv_aload_n hx hb lx_d_281 rfl (lv_at hl 1 rfl) ?_
  refine lv_aload_n hx hb lx_d_282 rfl (lv_at hl 3 rfl) ?_
  refine lv_iload_n hx hb lx_d_283 rfl (lv_at hl 0 rfl) ?_
  refine lv_iconst (v := 1) hx hb lx_d_284 (by decide) ?_
  refine lv_iadd hx hb lx_d_285 ?_
  refine va_sld hx hb hX hbl hbA w.2.2 hv.1 lx_d_286 ?_
  refine lv_aload_n hx hb lx_d_287 rfl (lv_at hl 3 rfl) ?_
  refine lv_iload_n hx hb lx_d_288 rfl (lv_at hl 0 rfl) ?_
  refine lv_iconst (v := 2) hx hb lx_d_289 (by decide) ?_
  refine lv_iadd hx hb lx_d_290 ?_
  refine va_sld hx hb hX hbl hbA w.2.2 hv.2.1 lx_d_291 ?_
  refine lv_aload_n hx hb lx_d_292 rfl (lv_at hl 3 rfl) ?_
  refine lv_iload_n hx hb lx_d_293 rfl (lv_at hl 0 rfl) ?_
  refine lv_iconst (v := 3) hx hb lx_d_294 (by decide) ?_
  refine lv_iadd hx hb lx_d_295 ?_
  refine va_sld hx hb hX hbl hbA w.2.2 hv.2.2.1 lx_d_296 ?_
  refine lx_cM (rest := [.int r]) hx hb hml hown hts F w c2 rfl lx_m_mend_w.1 lx_m_mend_w.2.1 lx_m_mend_w.2.2.1 lx_m_mend_w.2.2.2 lx_m_mend_c lx_m_mend_y ⟨(Nat.le_of_ble_eq_true rfl), (Nat.le_of_ble_eq_true rfl)⟩ hcs hl.1 rfl (Nat.le_of_ble_eq_true rfl) rfl lx_d_297 (fun H locs w => ?_)
  exact lv_icmp_eq (tgt := 1366) hx hb lx_d_300 (by decide) (fun _ => kk _ _ _ _ hR2 w) (fun q => absurd rfl q)
theorem lx_c_of_w : Cond.methodLink R_law 27 y_Club_of ∈ lw_tbl ∧ Cond.instanceMethod y_Club_of ∈ lw_tbl ∧ Cond.selects y_Club_of.cls y_Club_of y_Club_of ∈ lw_tbl ∧ Cond.initialized y_Club_of.cls ∈ lw_tbl := ⟨List.mem_of_getElem? (i := 505) (by decide +kernel), List.mem_of_getElem? (i := 506) (by decide +kernel), List.mem_of_getElem? (i := 507) (by decide +kernel), List.mem_of_getElem? (i := 83) (by decide +kernel)⟩
theorem lx_c_of_c : Cond.code y_Club_of prog_1_method_5_code 3 (some .int) ∈ am_T := am_in 508 (by decide +kernel) (by decide +kernel)
theorem lx_c_of_y : y_Club_of.cls ≠ "java/lang/invoke/MethodHandle" ∧ y_Club_of.cls ≠ "java/lang/invoke/VarHandle" ∧ (parseMethodDescriptor y_Club_of.desc).map (fun d => d.parameters.length) = some 2 := ⟨by decide +kernel, by decide +kernel, by decide +kernel⟩
theorem lx_m_of_w : Cond.methodLink R_law 31 y_Model_of ∈ lw_tbl ∧ Cond.instanceMethod y_Model_of ∈ lw_tbl ∧ Cond.selects y_Model_of.cls y_Model_of y_Model_of ∈ lw_tbl ∧ Cond.initialized y_Model_of.cls ∈ lw_tbl := ⟨List.mem_of_getElem? (i := 1490) (by decide +kernel), List.mem_of_getElem? (i := 1491) (by decide +kernel), List.mem_of_getElem? (i := 1492) (by decide +kernel), List.mem_of_getElem? (i := 94) (by decide +kernel)⟩
theorem lx_m_of_c : Cond.code y_Model_of prog_12_method_18_code 4 (some .int) ∈ am_T := am_in 1493 (by decide +kernel) (by decide +kernel)
theorem lx_m_of_y : y_Model_of.cls ≠ "java/lang/invoke/MethodHandle" ∧ y_Model_of.cls ≠ "java/lang/invoke/VarHandle" ∧ (parseMethodDescriptor y_Model_of.desc).map (fun d => d.parameters.length) = some 2 := ⟨by decide +kernel, by decide +kernel, by decide +kernel⟩
theorem lx_s3 (C0 : lw_At p s m0 meth c b L xs) (F : lx_F s D g adx adm) (hR : Rel x m) (w : lx_W s D g adx adm H locs x m) (hv : lx_in i3 L) (hcs : cells ≤ room_1.cells ∧ slots ≤ room_1.slots) (hl : lv_has ls 4 [(3, .int i3), (2, .ref (adm 0)), (1, .ref (adx 0)), (0, .ref b)]) (kk : lx_K1 p l e s m0 b below meth c D g adx adm cells slots ls Q) : W p l e room_1 s m0 #[.ref b] below meth c H locs cells slots Q (F0 m0 305 ls []) := by
  obtain ⟨hx, hb, hr, hml, hown, hts, hX, hbl, hlocks, hgv⟩ := C0
  have hbA : ¬ (fun q : Nat => s.heap.size ≤ q) b := Nat.not_le.mpr hbl
  obtain ⟨r, xx, mm, hR2, c1, c2⟩ := P_of hR (xs (i3 + 1).toNatClampNeg) (xs (i3 + 2).toNatClampNeg)
  refine lv_aload_n hx hb lx_d_305 rfl (lv_at hl 2 rfl) ?_
  refine lv_aload_n hx hb lx_d_306 rfl (lv_at hl 3 rfl) ?_
  refine lv_iload_n hx hb lx_d_307 rfl (lv_at hl 0 rfl) ?_
  refine lv_iconst (v := 1) hx hb lx_d_308 (by decide) ?_
  refine lv_iadd hx hb lx_d_309 ?_
  refine va_sld hx hb hX hbl hbA w.2.2 hv.1 lx_d_310 ?_
  refine lv_aload_n hx hb lx_d_311 rfl (lv_at hl 3 rfl) ?_
  refine lv_iload_n hx hb lx_d_312 rfl (lv_at hl 0 rfl) ?_
  refine lv_iconst (v := 2) hx hb lx_d_313 (by decide) ?_
  refine lv_iadd hx hb lx_d_314 ?_
  refine va_sld hx hb hX hbl hbA w.2.2 hv.2.1 lx_d_315 ?_
  refine lx_cX (rest := []) hx hb hml hown hts F w c1 rfl lx_c_of_w.1 lx_c_of_w.2.1 lx_c_of_w.2.2.1 lx_c_of_w.2.2.2 lx_c_of_c lx_c_of_y ⟨(Nat.le_of_ble_eq_true rfl), (Nat.le_of_ble_eq_true rfl)⟩ hcs hl.1 rfl (Nat.le_of_ble_eq_true rfl) rfl lx_d_316 (fun H locs w => ?_)
  refine lv_aload_n hx hb lx_d_319 rfl (lv_at hl 1 rfl) ?_
  refine lv_aload_n hx hb lx_d_320 rfl (lv_at hl 3 rfl) ?_
  refine lv_iload_n hx hb lx_d_321 rfl (lv_at hl 0 rfl) ?_
  refine lv_iconst (v := 1) hx hb lx_d_322 (by decide) ?_
  refine lv_iadd hx hb lx_d_323 ?_
  refine va_sld hx hb hX hbl hbA w.2.2 hv.1 lx_d_324 ?_
  refine lv_aload_n hx hb lx_d_325 rfl (lv_at hl 3 rfl) ?_
  refine lv_iload_n hx hb lx_d_326 rfl (lv_at hl 0 rfl) ?_
  refine lv_iconst (v := 2) hx hb lx_d_327 (by decide) ?_
  refine lv_iadd hx hb lx_d_328 ?_
  refine va_sld hx hb hX hbl hbA w.2.2 hv.2.1 lx_d_329 ?_
  refine lx_cM (rest := [.int r]) hx hb hml hown hts F w c2 rfl lx_m_of_w.1 lx_m_of_w.2.1 lx_m_of_w.2.2.1 lx_m_of_w.2.2.2 lx_m_of_c lx_m_of_y ⟨(Nat.le_of_ble_eq_true rfl), (Nat.le_of_ble_eq_true rfl)⟩ hcs hl.1 rfl (Nat.le_of_ble_eq_true rfl) rfl lx_d_330 (fun H locs w => ?_)
  exact lv_icmp_eq (tgt := 1366) hx hb lx_d_333 (by decide) (fun _ => kk _ _ _ _ hR2 w) (fun q => absurd rfl q)
theorem lx_c_feed_w : Cond.methodLink R_law 32 y_Club_feed ∈ lw_tbl ∧ Cond.instanceMethod y_Club_feed ∈ lw_tbl ∧ Cond.selects y_Club_feed.cls y_Club_feed y_Club_feed ∈ lw_tbl ∧ Cond.initialized y_Club_feed.cls ∈ lw_tbl := ⟨List.mem_of_getElem? (i := 513) (by decide +kernel), List.mem_of_getElem? (i := 514) (by decide +kernel), List.mem_of_getElem? (i := 515) (by decide +kernel), List.mem_of_getElem? (i := 83) (by decide +kernel)⟩
theorem lx_c_feed_c : Cond.code y_Club_feed prog_1_method_6_code 2 (some .int) ∈ am_T := am_in 516 (by decide +kernel) (by decide +kernel)
theorem lx_c_feed_y : y_Club_feed.cls ≠ "java/lang/invoke/MethodHandle" ∧ y_Club_feed.cls ≠ "java/lang/invoke/VarHandle" ∧ (parseMethodDescriptor y_Club_feed.desc).map (fun d => d.parameters.length) = some 1 := ⟨by decide +kernel, by decide +kernel, by decide +kernel⟩
theorem lx_m_feed_w : Cond.methodLink R_law 35 y_Model_feed ∈ lw_tbl ∧ Cond.instanceMethod y_Model_feed ∈ lw_tbl ∧ Cond.selects y_Model_feed.cls y_Model_feed y_Model_feed ∈ lw_tbl ∧ Cond.initialized y_Model_feed.cls ∈ lw_tbl := ⟨List.mem_of_getElem? (i := 1494) (by decide +kernel), List.mem_of_getElem? (i := 1495) (by decide +kernel), List.mem_of_getElem? (i := 1496) (by decide +kernel), List.mem_of_getElem? (i := 94) (by decide +kernel)⟩
theorem lx_m_feed_c : Cond.code y_Model_feed prog_12_method_19_code 2 (some .int) ∈ am_T := am_in 1497 (by decide +kernel) (by decide +kernel)
theorem lx_m_feed_y : y_Model_feed.cls ≠ "java/lang/invoke/MethodHandle" ∧ y_Model_feed.cls ≠ "java/lang/invoke/VarHandle" ∧ (parseMethodDescriptor y_Model_feed.desc).map (fun d => d.parameters.length) = some 1 := ⟨by decide +kernel, by decide +kernel, by decide +kernel⟩
theorem lx_s4 (C0 : lw_At p s m0 meth c b L xs) (F : lx_F s D g adx adm) (hR : Rel x m) (w : lx_W s D g adx adm H locs x m) (hv : lx_in i3 L) (hcs : cells ≤ room_1.cells ∧ slots ≤ room_1.slots) (hl : lv_has ls 4 [(3, .int i3), (2, .ref (adm 0)), (1, .ref (adx 0)), (0, .ref b)]) (kk : lx_K1 p l e s m0 b below meth c D g adx adm cells slots ls Q) : W p l e room_1 s m0 #[.ref b] below meth c H locs cells slots Q (F0 m0 338 ls []) := by
  obtain ⟨hx, hb, hr, hml, hown, hts, hX, hbl, hlocks, hgv⟩ := C0
  have hbA : ¬ (fun q : Nat => s.heap.size ≤ q) b := Nat.not_le.mpr hbl
  obtain ⟨r, xx, mm, hR2, c1, c2⟩ := P_feed hR (xs (i3 + 1).toNatClampNeg)
  refine lv_aload_n hx hb lx_d_338 rfl (lv_at hl 2 rfl) ?_
  refine lv_aload_n hx hb lx_d_339 rfl (lv_at hl 3 rfl) ?_
  refine lv_iload_n hx hb lx_d_340 rfl (lv_at hl 0 rfl) ?_
  refine lv_iconst (v := 1) hx hb lx_d_341 (by decide) ?_
  refine lv_iadd hx hb lx_d_342 ?_
  refine va_sld hx hb hX hbl hbA w.2.2 hv.1 lx_d_343 ?_
  refine lx_cX (rest := []) hx hb hml hown hts F w c1 rfl lx_c_feed_w.1 lx_c_feed_w.2.1 lx_c_feed_w.2.2.1 lx_c_feed_w.2.2.2 lx_c_feed_c lx_c_feed_y ⟨(Nat.le_of_ble_eq_true rfl), (Nat.le_of_ble_eq_true rfl)⟩ hcs hl.1 rfl (Nat.le_of_ble_eq_true rfl) rfl lx_d_344 (fun H locs w => ?_)
  refine lv_aload_n hx hb lx_d_347 rfl (lv_at hl 1 rfl) ?_
  refine lv_aload_n hx hb lx_d_348 rfl (lv_at hl 3 rfl) ?_
  refine lv_iload_n hx hb lx_d_349 rfl (lv_at hl 0 rfl) ?_
  refine lv_iconst (v := 1) hx hb lx_d_350 (by decide) ?_
  refine lv_iadd hx hb lx_d_351 ?_
  refine va_sld hx hb hX hbl hbA w.2.2 hv.1 lx_d_352 ?_
  refine lx_cM (rest := [.int r]) hx hb hml hown hts F w c2 rfl lx_m_feed_w.1 lx_m_feed_w.2.1 lx_m_feed_w.2.2.1 lx_m_feed_w.2.2.2 lx_m_feed_c lx_m_feed_y ⟨(Nat.le_of_ble_eq_true rfl), (Nat.le_of_ble_eq_true rfl)⟩ hcs hl.1 rfl (Nat.le_of_ble_eq_true rfl) rfl lx_d_353 (fun H locs w => ?_)
  exact lv_icmp_eq (tgt := 1366) hx hb lx_d_356 (by decide) (fun _ => kk _ _ _ _ hR2 w) (fun q => absurd rfl q)
theorem lx_c_law_w : Cond.methodLink R_law 36 y_Club_law ∈ lw_tbl ∧ Cond.instanceMethod y_Club_law ∈ lw_tbl ∧ Cond.selects y_Club_law.cls y_Club_law y_Club_law ∈ lw_tbl ∧ Cond.initialized y_Club_law.cls ∈ lw_tbl := ⟨List.mem_of_getElem? (i := 525) (by decide +kernel), List.mem_of_getElem? (i := 526) (by decide +kernel), List.mem_of_getElem? (i := 527) (by decide +kernel), List.mem_of_getElem? (i := 83) (by decide +kernel)⟩
theorem lx_c_law_c : Cond.code y_Club_law prog_1_method_7_code 1 (some .int) ∈ am_T := am_in 528 (by decide +kernel) (by decide +kernel)
theorem lx_c_law_y : y_Club_law.cls ≠ "java/lang/invoke/MethodHandle" ∧ y_Club_law.cls ≠ "java/lang/invoke/VarHandle" ∧ (parseMethodDescriptor y_Club_law.desc).map (fun d => d.parameters.length) = some 0 := ⟨by decide +kernel, by decide +kernel, by decide +kernel⟩
theorem lx_m_law_w : Cond.methodLink R_law 40 y_Model_law ∈ lw_tbl ∧ Cond.instanceMethod y_Model_law ∈ lw_tbl ∧ Cond.selects y_Model_law.cls y_Model_law y_Model_law ∈ lw_tbl ∧ Cond.initialized y_Model_law.cls ∈ lw_tbl := ⟨List.mem_of_getElem? (i := 1499) (by decide +kernel), List.mem_of_getElem? (i := 1500) (by decide +kernel), List.mem_of_getElem? (i := 1501) (by decide +kernel), List.mem_of_getElem? (i := 94) (by decide +kernel)⟩
theorem lx_m_law_c : Cond.code y_Model_law prog_12_method_31_code 4 (some .int) ∈ am_T := am_in 1502 (by decide +kernel) (by decide +kernel)
theorem lx_m_law_y : y_Model_law.cls ≠ "java/lang/invoke/MethodHandle" ∧ y_Model_law.cls ≠ "java/lang/invoke/VarHandle" ∧ (parseMethodDescriptor y_Model_law.desc).map (fun d => d.parameters.length) = some 0 := ⟨by decide +kernel, by decide +kernel, by decide +kernel⟩
theorem lx_s5 (C0 : lw_At p s m0 meth c b L xs) (F : lx_F s D g adx adm) (hR : Rel x m) (w : lx_W s D g adx adm H locs x m) (hv : lx_in i3 L) (hcs : cells ≤ room_1.cells ∧ slots ≤ room_1.slots) (hl : lv_has ls 4 [(3, .int i3), (2, .ref (adm 0)), (1, .ref (adx 0)), (0, .ref b)]) (kk : lx_K1 p l e s m0 b below meth c D g adx adm cells slots ls Q) : W p l e room_1 s m0 #[.ref b] below meth c H locs cells slots Q (F0 m0 361 ls []) := by
  obtain ⟨hx, hb, hr, hml, hown, hts, hX, hbl, hlocks, hgv⟩ := C0
  have hbA : ¬ (fun q : Nat => s.heap.size ≤ q) b := Nat.not_le.mpr hbl
  obtain ⟨r, xx, mm, hR2, c1, c2⟩ := P_law hR
  refine lv_aload_n hx hb lx_d_361 rfl (lv_at hl 2 rfl) ?_
  refine lx_cX (rest := []) hx hb hml hown hts F w c1 rfl lx_c_law_w.1 lx_c_law_w.2.1 lx_c_law_w.2.2.1 lx_c_law_w.2.2.2 lx_c_law_c lx_c_law_y ⟨(Nat.le_of_ble_eq_true rfl), (Nat.le_of_ble_eq_true rfl)⟩ hcs hl.1 rfl (Nat.le_of_ble_eq_true rfl) rfl lx_d_362 (fun H locs w => ?_)
  refine lv_aload_n hx hb lx_d_365 rfl (lv_at hl 1 rfl) ?_
  refine lx_cM (rest := [.int r]) hx hb hml hown hts F w c2 rfl lx_m_law_w.1 lx_m_law_w.2.1 lx_m_law_w.2.2.1 lx_m_law_w.2.2.2 lx_m_law_c lx_m_law_y ⟨(Nat.le_of_ble_eq_true rfl), (Nat.le_of_ble_eq_true rfl)⟩ hcs hl.1 rfl (Nat.le_of_ble_eq_true rfl) rfl lx_d_366 (fun H locs w => ?_)
  exact lv_icmp_eq (tgt := 1366) hx hb lx_d_369 (by decide) (fun _ => kk _ _ _ _ hR2 w) (fun q => absurd rfl q)
theorem lx_c_lies_w : Cond.methodLink R_law 41 y_Club_lies ∈ lw_tbl ∧ Cond.instanceMethod y_Club_lies ∈ lw_tbl ∧ Cond.selects y_Club_lies.cls y_Club_lies y_Club_lies ∈ lw_tbl ∧ Cond.initialized y_Club_lies.cls ∈ lw_tbl := ⟨List.mem_of_getElem? (i := 662) (by decide +kernel), List.mem_of_getElem? (i := 663) (by decide +kernel), List.mem_of_getElem? (i := 664) (by decide +kernel), List.mem_of_getElem? (i := 83) (by decide +kernel)⟩
theorem lx_c_lies_c : Cond.code y_Club_lies prog_1_method_9_code 6 (some .long) ∈ am_T := am_in 665 (by decide +kernel) (by decide +kernel)
theorem lx_c_lies_y : y_Club_lies.cls ≠ "java/lang/invoke/MethodHandle" ∧ y_Club_lies.cls ≠ "java/lang/invoke/VarHandle" ∧ (parseMethodDescriptor y_Club_lies.desc).map (fun d => d.parameters.length) = some 3 := ⟨by decide +kernel, by decide +kernel, by decide +kernel⟩
theorem lx_m_lies_w : Cond.methodLink R_law 45 y_Model_lies ∈ lw_tbl ∧ Cond.instanceMethod y_Model_lies ∈ lw_tbl ∧ Cond.selects y_Model_lies.cls y_Model_lies y_Model_lies ∈ lw_tbl ∧ Cond.initialized y_Model_lies.cls ∈ lw_tbl := ⟨List.mem_of_getElem? (i := 1565) (by decide +kernel), List.mem_of_getElem? (i := 1566) (by decide +kernel), List.mem_of_getElem? (i := 1567) (by decide +kernel), List.mem_of_getElem? (i := 94) (by decide +kernel)⟩
theorem lx_m_lies_c : Cond.code y_Model_lies prog_12_method_41_code 5 (some .long) ∈ am_T := am_in 1568 (by decide +kernel) (by decide +kernel)
theorem lx_m_lies_y : y_Model_lies.cls ≠ "java/lang/invoke/MethodHandle" ∧ y_Model_lies.cls ≠ "java/lang/invoke/VarHandle" ∧ (parseMethodDescriptor y_Model_lies.desc).map (fun d => d.parameters.length) = some 3 := ⟨by decide +kernel, by decide +kernel, by decide +kernel⟩
theorem lx_s6 (C0 : lw_At p s m0 meth c b L xs) (F : lx_F s D g adx adm) (hR : Rel x m) (w : lx_W s D g adx adm H locs x m) (hv : lx_in i3 L) (hcs : cells ≤ room_1.cells ∧ slots ≤ room_1.slots) (hl : lv_has ls 4 [(3, .int i3), (2, .ref (adm 0)), (1, .ref (adx 0)), (0, .ref b)]) (kk : lx_K1 p l e s m0 b below meth c D g adx adm cells slots ls Q) : W p l e room_1 s m0 #[.ref b] below meth c H locs cells slots Q (F0 m0 374 ls []) := by
  obtain ⟨hx, hb, hr, hml, hown, hts, hX, hbl, hlocks, hgv⟩ := C0
  have hbA : ¬ (fun q : Nat => s.heap.size ≤ q) b := Nat.not_le.mpr hbl
  obtain ⟨r, xx, mm, hR2, c1, c2⟩ := P_lies hR (xs (i3 + 1).toNatClampNeg) (xs (i3 + 2).toNatClampNeg) (xs (i3 + 3).toNatClampNeg)
  refine lv_aload_n hx hb lx_d_374 rfl (lv_at hl 2 rfl) ?_
  refine lv_aload_n hx hb lx_d_375 rfl (lv_at hl 3 rfl) ?_
  refine lv_iload_n hx hb lx_d_376 rfl (lv_at hl 0 rfl) ?_
  refine lv_iconst (v := 1) hx hb lx_d_377 (by decide) ?_
  refine lv_iadd hx hb lx_d_378 ?_
  refine va_sld hx hb hX hbl hbA w.2.2 hv.1 lx_d_379 ?_
  refine lv_aload_n hx hb lx_d_380 rfl (lv_at hl 3 rfl) ?_
  refine lv_iload_n hx hb lx_d_381 rfl (lv_at hl 0 rfl) ?_
  refine lv_iconst (v := 2) hx hb lx_d_382 (by decide) ?_
  refine lv_iadd hx hb lx_d_383 ?_
  refine va_sld hx hb hX hbl hbA w.2.2 hv.2.1 lx_d_384 ?_
  refine lv_aload_n hx hb lx_d_385 rfl (lv_at hl 3 rfl) ?_
  refine lv_iload_n hx hb lx_d_386 rfl (lv_at hl 0 rfl) ?_
  refine lv_iconst (v := 3) hx hb lx_d_387 (by decide) ?_
  refine lv_iadd hx hb lx_d_388 ?_
  refine va_sld hx hb hX hbl hbA w.2.2 hv.2.2.1 lx_d_389 ?_
  refine lx_cX (rest := []) hx hb hml hown hts F w c1 rfl lx_c_lies_w.1 lx_c_lies_w.2.1 lx_c_lies_w.2.2.1 lx_c_lies_w.2.2.2 lx_c_lies_c lx_c_lies_y ⟨(Nat.le_of_ble_eq_true rfl), (Nat.le_of_ble_eq_true rfl)⟩ hcs hl.1 rfl (Nat.le_of_ble_eq_true rfl) rfl lx_d_390 (fun H locs w => ?_)
  refine lv_aload_n hx hb lx_d_393 rfl (lv_at hl 1 rfl) ?_
  refine lv_aload_n hx hb lx_d_394 rfl (lv_at hl 3 rfl) ?_
  refine lv_iload_n hx hb lx_d_395 rfl (lv_at hl 0 rfl) ?_
  refine lv_iconst (v := 1) hx hb lx_d_396 (by decide) ?_
  refine lv_iadd hx hb lx_d_397 ?_
  refine va_sld hx hb hX hbl hbA w.2.2 hv.1 lx_d_398 ?_
  refine lv_aload_n hx hb lx_d_399 rfl (lv_at hl 3 rfl) ?_
  refine lv_iload_n hx hb lx_d_400 rfl (lv_at hl 0 rfl) ?_
  refine lv_iconst (v := 2) hx hb lx_d_401 (by decide) ?_
  refine lv_iadd hx hb lx_d_402 ?_
  refine va_sld hx hb hX hbl hbA w.2.2 hv.2.1 lx_d_403 ?_
  refine lv_aload_n hx hb lx_d_404 rfl (lv_at hl 3 rfl) ?_
  refine lv_iload_n hx hb lx_d_405 rfl (lv_at hl 0 rfl) ?_
  refine lv_iconst (v := 3) hx hb lx_d_406 (by decide) ?_
  refine lv_iadd hx hb lx_d_407 ?_
  refine va_sld hx hb hX hbl hbA w.2.2 hv.2.2.1 lx_d_408 ?_
  refine lx_cM (rest := [.long r]) hx hb hml hown hts F w c2 rfl lx_m_lies_w.1 lx_m_lies_w.2.1 lx_m_lies_w.2.2.1 lx_m_lies_w.2.2.2 lx_m_lies_c lx_m_lies_y ⟨(Nat.le_of_ble_eq_true rfl), (Nat.le_of_ble_eq_true rfl)⟩ hcs hl.1 rfl (Nat.le_of_ble_eq_true rfl) rfl lx_d_409 (fun H locs w => ?_)
  refine W.lcmp hx hb lx_d_412 ?_
  rw [lx_cmp]
  exact lv_if_eq (tgt := 1366) hx hb lx_d_413 (by decide) (fun _ => kk _ _ _ _ hR2 w) (fun q => absurd rfl q)
theorem lx_c_chance_w : Cond.methodLink R_law 46 y_Club_chance ∈ lw_tbl ∧ Cond.instanceMethod y_Club_chance ∈ lw_tbl ∧ Cond.selects y_Club_chance.cls y_Club_chance y_Club_chance ∈ lw_tbl ∧ Cond.initialized y_Club_chance.cls ∈ lw_tbl := ⟨List.mem_of_getElem? (i := 721) (by decide +kernel), List.mem_of_getElem? (i := 722) (by decide +kernel), List.mem_of_getElem? (i := 723) (by decide +kernel), List.mem_of_getElem? (i := 83) (by decide +kernel)⟩
theorem lx_c_chance_c : Cond.code y_Club_chance prog_1_method_10_code 5 (some .long) ∈ am_T := am_in 724 (by decide +kernel) (by decide +kernel)
theorem lx_c_chance_y : y_Club_chance.cls ≠ "java/lang/invoke/MethodHandle" ∧ y_Club_chance.cls ≠ "java/lang/invoke/VarHandle" ∧ (parseMethodDescriptor y_Club_chance.desc).map (fun d => d.parameters.length) = some 3 := ⟨by decide +kernel, by decide +kernel, by decide +kernel⟩
theorem lx_m_chance_w : Cond.methodLink R_law 49 y_Model_chance ∈ lw_tbl ∧ Cond.instanceMethod y_Model_chance ∈ lw_tbl ∧ Cond.selects y_Model_chance.cls y_Model_chance y_Model_chance ∈ lw_tbl ∧ Cond.initialized y_Model_chance.cls ∈ lw_tbl := ⟨List.mem_of_getElem? (i := 1596) (by decide +kernel), List.mem_of_getElem? (i := 1597) (by decide +kernel), List.mem_of_getElem? (i := 1598) (by decide +kernel), List.mem_of_getElem? (i := 94) (by decide +kernel)⟩
theorem lx_m_chance_c : Cond.code y_Model_chance prog_12_method_44_code 5 (some .long) ∈ am_T := am_in 1599 (by decide +kernel) (by decide +kernel)
theorem lx_m_chance_y : y_Model_chance.cls ≠ "java/lang/invoke/MethodHandle" ∧ y_Model_chance.cls ≠ "java/lang/invoke/VarHandle" ∧ (parseMethodDescriptor y_Model_chance.desc).map (fun d => d.parameters.length) = some 3 := ⟨by decide +kernel, by decide +kernel, by decide +kernel⟩
theorem lx_s7 (C0 : lw_At p s m0 meth c b L xs) (F : lx_F s D g adx adm) (hR : Rel x m) (w : lx_W s D g adx adm H locs x m) (hv : lx_in i3 L) (hcs : cells ≤ room_1.cells ∧ slots ≤ room_1.slots) (hl : lv_has ls 4 [(3, .int i3), (2, .ref (adm 0)), (1, .ref (adx 0)), (0, .ref b)]) (kk : lx_K1 p l e s m0 b below meth c D g adx adm cells slots ls Q) : W p l e room_1 s m0 #[.ref b] below meth c H locs cells slots Q (F0 m0 418 ls []) := by
  obtain ⟨hx, hb, hr, hml, hown, hts, hX, hbl, hlocks, hgv⟩ := C0
  have hbA : ¬ (fun q : Nat => s.heap.size ≤ q) b := Nat.not_le.mpr hbl
  obtain ⟨r, xx, mm, hR2, c1, c2⟩ := P_chance hR (xs (i3 + 1).toNatClampNeg) (xs (i3 + 2).toNatClampNeg) (xs (i3 + 3).toNatClampNeg)
  refine lv_aload_n hx hb lx_d_418 rfl (lv_at hl 2 rfl) ?_
  refine lv_aload_n hx hb lx_d_419 rfl (lv_at hl 3 rfl) ?_
  refine lv_iload_n hx hb lx_d_420 rfl (lv_at hl 0 rfl) ?_
  refine lv_iconst (v := 1) hx hb lx_d_421 (by decide) ?_
  refine lv_iadd hx hb lx_d_422 ?_
  refine va_sld hx hb hX hbl hbA w.2.2 hv.1 lx_d_423 ?_
  refine lv_aload_n hx hb lx_d_424 rfl (lv_at hl 3 rfl) ?_
  refine lv_iload_n hx hb lx_d_425 rfl (lv_at hl 0 rfl) ?_
  refine lv_iconst (v := 2) hx hb lx_d_426 (by decide) ?_
  refine lv_iadd hx hb lx_d_427 ?_
  refine va_sld hx hb hX hbl hbA w.2.2 hv.2.1 lx_d_428 ?_
  refine lv_aload_n hx hb lx_d_429 rfl (lv_at hl 3 rfl) ?_
  refine lv_iload_n hx hb lx_d_430 rfl (lv_at hl 0 rfl) ?_
  refine lv_iconst (v := 3) hx hb lx_d_431 (by decide) ?_
  refine lv_iadd hx hb lx_d_432 ?_
  refine va_sld hx hb hX hbl hbA w.2.2 hv.2.2.1 lx_d_433 ?_
  refine lx_cX (rest := []) hx hb hml hown hts F w c1 rfl lx_c_chance_w.1 lx_c_chance_w.2.1 lx_c_chance_w.2.2.1 lx_c_chance_w.2.2.2 lx_c_chance_c lx_c_chance_y ⟨(Nat.le_of_ble_eq_true rfl), (Nat.le_of_ble_eq_true rfl)⟩ hcs hl.1 rfl (Nat.le_of_ble_eq_true rfl) rfl lx_d_434 (fun H locs w => ?_)
  refine lv_aload_n hx hb lx_d_437 rfl (lv_at hl 1 rfl) ?_
  refine lv_aload_n hx hb lx_d_438 rfl (lv_at hl 3 rfl) ?_
  refine lv_iload_n hx hb lx_d_439 rfl (lv_at hl 0 rfl) ?_
  refine lv_iconst (v := 1) hx hb lx_d_440 (by decide) ?_
  refine lv_iadd hx hb lx_d_441 ?_
  refine va_sld hx hb hX hbl hbA w.2.2 hv.1 lx_d_442 ?_
  refine lv_aload_n hx hb lx_d_443 rfl (lv_at hl 3 rfl) ?_
  refine lv_iload_n hx hb lx_d_444 rfl (lv_at hl 0 rfl) ?_
  refine lv_iconst (v := 2) hx hb lx_d_445 (by decide) ?_
  refine lv_iadd hx hb lx_d_446 ?_
  refine va_sld hx hb hX hbl hbA w.2.2 hv.2.1 lx_d_447 ?_
  refine lv_aload_n hx hb lx_d_448 rfl (lv_at hl 3 rfl) ?_
  refine lv_iload_n hx hb lx_d_449 rfl (lv_at hl 0 rfl) ?_
  refine lv_iconst (v := 3) hx hb lx_d_450 (by decide) ?_
  refine lv_iadd hx hb lx_d_451 ?_
  refine va_sld hx hb hX hbl hbA w.2.2 hv.2.2.1 lx_d_452 ?_
  refine lx_cM (rest := [.long r]) hx hb hml hown hts F w c2 rfl lx_m_chance_w.1 lx_m_chance_w.2.1 lx_m_chance_w.2.2.1 lx_m_chance_w.2.2.2 lx_m_chance_c lx_m_chance_y ⟨(Nat.le_of_ble_eq_true rfl), (Nat.le_of_ble_eq_true rfl)⟩ hcs hl.1 rfl (Nat.le_of_ble_eq_true rfl) rfl lx_d_453 (fun H locs w => ?_)
  refine W.lcmp hx hb lx_d_456 ?_
  rw [lx_cmp]
  exact lv_if_eq (tgt := 1366) hx hb lx_d_457 (by decide) (fun _ => kk _ _ _ _ hR2 w) (fun q => absurd rfl q)
end Lc
