/-! the constructors of the small classes (by gen59.py) -/
theorem wn_108 : Cond.instanceMethod Lib.objectInit ∈ am_T := am_in 108 (by decide +kernel) (by decide +kernel)
theorem wn_109 : Cond.code Lib.objectInit ⟨#[0xb1]⟩ 1 none ∈ am_T := am_in 109 (by decide +kernel) (by decide +kernel)
theorem wn_159 : Cond.methodLink "WhichClub$Law" 3 Lib.objectInit ∈ am_T := am_in 159 (by decide +kernel) (by decide +kernel)
theorem wn_193 : Cond.methodLink "WhichClub$Reckoning" 3 Lib.objectInit ∈ am_T := am_in 193 (by decide +kernel) (by decide +kernel)
theorem wn_246 : Cond.methodLink "WhichClub$Rounds" 3 Lib.objectInit ∈ am_T := am_in 246 (by decide +kernel) (by decide +kernel)
theorem wn_259 : Cond.methodLink "WhichClub$Draws" 3 Lib.objectInit ∈ am_T := am_in 259 (by decide +kernel) (by decide +kernel)
theorem wn_281 : Cond.methodLink "WhichClub$Deed" 3 Lib.objectInit ∈ am_T := am_in 281 (by decide +kernel) (by decide +kernel)
theorem wn_303 : Cond.methodLink "WhichClub$Changes" 1 Lib.objectInit ∈ am_T := am_in 303 (by decide +kernel) (by decide +kernel)
theorem wn_328 : Cond.methodLink "WhichClub$Words" 3 Lib.objectInit ∈ am_T := am_in 328 (by decide +kernel) (by decide +kernel)
theorem wn_348 : Cond.methodLink "WhichClub$Shelf" 1 Lib.objectInit ∈ am_T := am_in 348 (by decide +kernel) (by decide +kernel)
theorem df_Club : ∀ j, j < 9 → defaultValue (am_ty 0 j) = vp_V [.null, .null, .null, .null, .null, .null, .null, .null, .null] j := by decide +kernel
theorem df_Hole : ∀ j, j < 10 → defaultValue (am_ty 1 j) = vp_V [.null, .null, .null, .null, .int 0, .int 0, .int 0, .int 0, .int 0, .int 0] j := by decide +kernel
theorem df_Law : ∀ j, j < 9 → defaultValue (am_ty 2 j) = vp_V [.null, .null, .null, .null, .null, .int 0, .int 0, .int 0, .int 0] j := by decide +kernel
theorem df_Reck : ∀ j, j < 15 → defaultValue (am_ty 3 j) = vp_V [.null, .null, .null, .null, .null, .null, .int 0, .int 0, .int 0, .int 0, .int 0, .int 0, .int 0, .long 0, .long 0] j := by decide +kernel
theorem df_Rounds : ∀ j, j < 2 → defaultValue (am_ty 4 j) = vp_V [.null, .null] j := by decide +kernel
theorem df_Draws : ∀ j, j < 5 → defaultValue (am_ty 5 j) = vp_V [.null, .null, .int 0, .int 0, .int 0] j := by decide +kernel
theorem df_Deed : ∀ j, j < 5 → defaultValue (am_ty 6 j) = vp_V [.null, .null, .null, .null, .int 0] j := by decide +kernel
theorem df_Changes : ∀ j, j < 6 → defaultValue (am_ty 7 j) = vp_V [.null, .null, .null, .null, .int 0, .int 0] j := by decide +kernel
theorem df_Words : ∀ j, j < 4 → defaultValue (am_ty 8 j) = vp_V [.null, .null, .int 0, .int 0] j := by decide +kernel
theorem df_Shelf : ∀ j, j < 4 → defaultValue (am_ty 9 j) = vp_V [.null, .int 0, .int 0, .int 0] j := by decide +kernel
theorem df_Model : ∀ j, j < 36 → defaultValue (am_ty 10 j) = vp_V [.null, .null, .null, .null, .int 0, .int 0, .int 0, .null, .int 0, .null, .int 0, .int 0, .int 0, .int 0, .int 0, .int 0, .null, .null, .null, .null, .null, .int 0, .int 0, .null, .int 0, .null, .int 0, .null, .null, .int 0, .int 0, .int 0, .null, .null, .null, .null] j := by decide +kernel
theorem d_Shelf_init_0 : decode prog_9_method_1_code 0 = .ok (.aload_n 0, 1) := by decide +kernel
theorem d_Shelf_init_1 : decode prog_9_method_1_code 1 = .ok (.invokespecial 1, 3) := by decide +kernel
theorem d_Shelf_init_4 : decode prog_9_method_1_code 4 = .ok (.aload_n 0, 1) := by decide +kernel
theorem d_Shelf_init_5 : decode prog_9_method_1_code 5 = .ok (.bipush 60, 2) := by decide +kernel
theorem d_Shelf_init_7 : decode prog_9_method_1_code 7 = .ok (.newarray .long, 2) := by decide +kernel
theorem d_Shelf_init_9 : decode prog_9_method_1_code 9 = .ok (.putfield 9, 3) := by decide +kernel
theorem d_Shelf_init_12 : decode prog_9_method_1_code 12 = .ok (.aload_n 0, 1) := by decide +kernel
theorem d_Shelf_init_13 : decode prog_9_method_1_code 13 = .ok (.iconst (-1), 1) := by decide +kernel
theorem d_Shelf_init_14 : decode prog_9_method_1_code 14 = .ok (.putfield 13, 3) := by decide +kernel
theorem d_Shelf_init_17 : decode prog_9_method_1_code 17 = .ok (.aload_n 0, 1) := by decide +kernel
theorem d_Shelf_init_18 : decode prog_9_method_1_code 18 = .ok (.iconst (-1), 1) := by decide +kernel
theorem d_Shelf_init_19 : decode prog_9_method_1_code 19 = .ok (.putfield 17, 3) := by decide +kernel
theorem d_Shelf_init_22 : decode prog_9_method_1_code 22 = .ok (.aload_n 0, 1) := by decide +kernel
theorem d_Shelf_init_23 : decode prog_9_method_1_code 23 = .ok (.iconst 0, 1) := by decide +kernel
theorem d_Shelf_init_24 : decode prog_9_method_1_code 24 = .ok (.putfield 20, 3) := by decide +kernel
theorem d_Shelf_init_27 : decode prog_9_method_1_code 27 = .ok (.return_, 1) := by decide +kernel
def W1_Shelf_init (g : am_G) (b : Nat) (qs : Nat → Nat) : va_W := [(b, .inr (9, [.ref (qs 0), .int (-1), .int (-1), .int 0])), ((qs 0), .inl (g.2.1, 60, .inr (.inl (fun _ => 0))))]
abbrev rm_Shelf_init : Room := { frames := 1, cells := 1, slots := 60, locals := 40 }
set_option maxRecDepth 100000 in
set_option maxHeartbeats 4000000 in
theorem c_Shelf_init : nw_M (fun _ => True) ⟨"WhichClub$Shelf", "<init>", "()V"⟩ prog_9_method_1_code 1 rm_Shelf_init [] (.inr (9, [.null, .int 0, .int 0, .int 0])) (W1_Shelf_init) := by
  refine nw_enter (by decide) rfl (fun _ => (Nat.le_of_ble_eq_true rfl)) (fun p l e s m args below meth c D g b ls H locs C hin hr hlk w hl hX => ?_)
  have hx := C.1
  have hb := C.2.1
  generalize hA : va_A [(b, (.inr (9, [.null, .int 0, .int 0, .int 0]) : va_E))] s.heap.size = A at C w
  have hl : lv_has ls 1 [(0, .ref b)] := hl
  refine lv_aload_n hx hb d_Shelf_init_0 rfl (lv_at hl 0 rfl) ?_
  refine nw_objInit C wn_348 wn_108 wn_109 hl.1 d_Shelf_init_1 (Nat.le_of_ble_eq_true rfl) (Nat.le_of_ble_eq_true rfl) ?_
  refine lv_aload_n hx hb d_Shelf_init_4 rfl (lv_at hl 0 rfl) ?_
  refine lv_bipush (v := 60) hx hb d_Shelf_init_5 (by decide) ?_
  refine nw_newL (N := 60) C w (by decide) (by decide) (by decide) (Nat.le_of_ble_eq_true rfl) (Nat.le_of_ble_eq_true rfl) d_Shelf_init_7 (fun q0 H w => ?_)
  have w : nw_W D A s H locs [(b, .inr (9, [.null, .int 0, .int 0, .int 0])), (q0, .inl (g.2.1, 60, .inr (.inl (fun _ => 0))))] := w
  refine W.widen (k := 1) (n := 60) (Nat.le_of_ble_eq_true rfl) (Nat.le_of_ble_eq_true rfl) ?_
  refine nw_putF C w hin 0 rfl rfl 0 (by decide) w_349 rfl (by first | rfl | decide) (by first | rfl | decide) (Nat.le_of_ble_eq_true rfl) d_Shelf_init_9 (fun H locs w => ?_)
  have w : nw_W D A s H locs [(b, .inr (9, [.ref q0, .int 0, .int 0, .int 0])), (q0, .inl (g.2.1, 60, .inr (.inl (fun _ => 0))))] := w
  refine lv_aload_n hx hb d_Shelf_init_12 rfl (lv_at hl 0 rfl) ?_
  refine lv_iconst (v := (-1)) hx hb d_Shelf_init_13 (by decide) ?_
  refine nw_put C w 0 rfl rfl 1 (by decide) w_350 rfl (by first | rfl | decide) (by first | rfl | decide) (Nat.le_of_ble_eq_true rfl) d_Shelf_init_14 (fun H locs w => ?_)
  have w : nw_W D A s H locs [(b, .inr (9, [.ref q0, .int (-1), .int 0, .int 0])), (q0, .inl (g.2.1, 60, .inr (.inl (fun _ => 0))))] := w
  refine lv_aload_n hx hb d_Shelf_init_17 rfl (lv_at hl 0 rfl) ?_
  refine lv_iconst (v := (-1)) hx hb d_Shelf_init_18 (by decide) ?_
  refine nw_put C w 0 rfl rfl 2 (by decide) w_351 rfl (by first | rfl | decide) (by first | rfl | decide) (Nat.le_of_ble_eq_true rfl) d_Shelf_init_19 (fun H locs w => ?_)
  have w : nw_W D A s H locs [(b, .inr (9, [.ref q0, .int (-1), .int (-1), .int 0])), (q0, .inl (g.2.1, 60, .inr (.inl (fun _ => 0))))] := w
  refine lv_aload_n hx hb d_Shelf_init_22 rfl (lv_at hl 0 rfl) ?_
  refine lv_iconst (v := 0) hx hb d_Shelf_init_23 (by decide) ?_
  refine nw_put C w 0 rfl rfl 3 (by decide) w_352 rfl (by first | rfl | decide) (by first | rfl | decide) (Nat.le_of_ble_eq_true rfl) d_Shelf_init_24 (fun H locs w => ?_)
  have w : nw_W D A s H locs [(b, .inr (9, [.ref q0, .int (-1), .int (-1), .int 0])), (q0, .inl (g.2.1, 60, .inr (.inl (fun _ => 0))))] := w
  refine nw_ret (rm := rm_Shelf_init) (W1 := W1_Shelf_init) hA C hr hlk (fun i => ([q0] : List Nat).getD i 0) w ?_ ?_ d_Shelf_init_27 <;> exact Nat.le_of_ble_eq_true rfl
theorem pd_Shelf : "WhichClub$Shelf" ≠ "java/lang/invoke/MethodHandle" ∧ "WhichClub$Shelf" ≠ "java/lang/invoke/VarHandle" ∧ (parseMethodDescriptor "()V").map (fun d => d.parameters.length) = some 0 := by decide +kernel
theorem d_Words_init_0 : decode prog_10_method_1_code 0 = .ok (.aload_n 0, 1) := by decide +kernel
theorem d_Words_init_1 : decode prog_10_method_1_code 1 = .ok (.invokespecial 3, 3) := by decide +kernel
theorem d_Words_init_4 : decode prog_10_method_1_code 4 = .ok (.aload_n 0, 1) := by decide +kernel
theorem d_Words_init_5 : decode prog_10_method_1_code 5 = .ok (.bipush 50, 2) := by decide +kernel
theorem d_Words_init_7 : decode prog_10_method_1_code 7 = .ok (.newarray .int, 2) := by decide +kernel
theorem d_Words_init_9 : decode prog_10_method_1_code 9 = .ok (.putfield 11, 3) := by decide +kernel
theorem d_Words_init_12 : decode prog_10_method_1_code 12 = .ok (.aload_n 0, 1) := by decide +kernel
theorem d_Words_init_13 : decode prog_10_method_1_code 13 = .ok (.bipush 24, 2) := by decide +kernel
theorem d_Words_init_15 : decode prog_10_method_1_code 15 = .ok (.newarray .int, 2) := by decide +kernel
theorem d_Words_init_17 : decode prog_10_method_1_code 17 = .ok (.putfield 15, 3) := by decide +kernel
theorem d_Words_init_20 : decode prog_10_method_1_code 20 = .ok (.aload_n 0, 1) := by decide +kernel
theorem d_Words_init_21 : decode prog_10_method_1_code 21 = .ok (.iconst 0, 1) := by decide +kernel
theorem d_Words_init_22 : decode prog_10_method_1_code 22 = .ok (.putfield 18, 3) := by decide +kernel
theorem d_Words_init_25 : decode prog_10_method_1_code 25 = .ok (.aload_n 0, 1) := by decide +kernel
theorem d_Words_init_26 : decode prog_10_method_1_code 26 = .ok (.iconst 0, 1) := by decide +kernel
theorem d_Words_init_27 : decode prog_10_method_1_code 27 = .ok (.putfield 22, 3) := by decide +kernel
theorem d_Words_init_30 : decode prog_10_method_1_code 30 = .ok (.return_, 1) := by decide +kernel
def W1_Words_init (g : am_G) (b : Nat) (qs : Nat → Nat) : va_W := [(b, .inr (8, [.ref (qs 0), .ref (qs 1), .int 0, .int 0])), ((qs 0), .inl (g.1, 50, .inl (fun _ => 0))), ((qs 1), .inl (g.1, 24, .inl (fun _ => 0)))]
abbrev rm_Words_init : Room := { frames := 1, cells := 2, slots := 74, locals := 40 }
set_option maxRecDepth 100000 in
set_option maxHeartbeats 4000000 in
theorem c_Words_init : nw_M (fun _ => True) ⟨"WhichClub$Words", "<init>", "()V"⟩ prog_10_method_1_code 1 rm_Words_init [] (.inr (8, [.null, .null, .int 0, .int 0])) (W1_Words_init) := by
  refine nw_enter (by decide) rfl (fun _ => (Nat.le_of_ble_eq_true rfl)) (fun p l e s m args below meth c D g b ls H locs C hin hr hlk w hl hX => ?_)
  have hx := C.1
  have hb := C.2.1
  generalize hA : va_A [(b, (.inr (8, [.null, .null, .int 0, .int 0]) : va_E))] s.heap.size = A at C w
  have hl : lv_has ls 1 [(0, .ref b)] := hl
  refine lv_aload_n hx hb d_Words_init_0 rfl (lv_at hl 0 rfl) ?_
  refine nw_objInit C wn_328 wn_108 wn_109 hl.1 d_Words_init_1 (Nat.le_of_ble_eq_true rfl) (Nat.le_of_ble_eq_true rfl) ?_
  refine lv_aload_n hx hb d_Words_init_4 rfl (lv_at hl 0 rfl) ?_
  refine lv_bipush (v := 50) hx hb d_Words_init_5 (by decide) ?_
  refine nw_newI (N := 50) C w (by decide) (by decide) (by decide) (Nat.le_of_ble_eq_true rfl) (Nat.le_of_ble_eq_true rfl) d_Words_init_7 (fun q0 H w => ?_)
  have w : nw_W D A s H locs [(b, .inr (8, [.null, .null, .int 0, .int 0])), (q0, .inl (g.1, 50, .inl (fun _ => 0)))] := w
  refine W.widen (k := 1) (n := 50) (Nat.le_of_ble_eq_true rfl) (Nat.le_of_ble_eq_true rfl) ?_
  refine nw_putF C w hin 0 rfl rfl 0 (by decide) w_329 rfl (by first | rfl | decide) (by first | rfl | decide) (Nat.le_of_ble_eq_true rfl) d_Words_init_9 (fun H locs w => ?_)
  have w : nw_W D A s H locs [(b, .inr (8, [.ref q0, .null, .int 0, .int 0])), (q0, .inl (g.1, 50, .inl (fun _ => 0)))] := w
  refine lv_aload_n hx hb d_Words_init_12 rfl (lv_at hl 0 rfl) ?_
  refine lv_bipush (v := 24) hx hb d_Words_init_13 (by decide) ?_
  refine nw_newI (N := 24) C w (by decide) (by decide) (by decide) (Nat.le_of_ble_eq_true rfl) (Nat.le_of_ble_eq_true rfl) d_Words_init_15 (fun q1 H w => ?_)
  have w : nw_W D A s H locs [(b, .inr (8, [.ref q0, .null, .int 0, .int 0])), (q0, .inl (g.1, 50, .inl (fun _ => 0))), (q1, .inl (g.1, 24, .inl (fun _ => 0)))] := w
  refine W.widen (k := 2) (n := 74) (Nat.le_of_ble_eq_true rfl) (Nat.le_of_ble_eq_true rfl) ?_
  refine nw_putF C w hin 0 rfl rfl 1 (by decide) w_330 rfl (by first | rfl | decide) (by first | rfl | decide) (Nat.le_of_ble_eq_true rfl) d_Words_init_17 (fun H locs w => ?_)
  have w : nw_W D A s H locs [(b, .inr (8, [.ref q0, .ref q1, .int 0, .int 0])), (q0, .inl (g.1, 50, .inl (fun _ => 0))), (q1, .inl (g.1, 24, .inl (fun _ => 0)))] := w
  refine lv_aload_n hx hb d_Words_init_20 rfl (lv_at hl 0 rfl) ?_
  refine lv_iconst (v := 0) hx hb d_Words_init_21 (by decide) ?_
  refine nw_put C w 0 rfl rfl 2 (by decide) w_331 rfl (by first | rfl | decide) (by first | rfl | decide) (Nat.le_of_ble_eq_true rfl) d_Words_init_22 (fun H locs w => ?_)
  have w : nw_W D A s H locs [(b, .inr (8, [.ref q0, .ref q1, .int 0, .int 0])), (q0, .inl (g.1, 50, .inl (fun _ => 0))), (q1, .inl (g.1, 24, .inl (fun _ => 0)))] := w
  refine lv_aload_n hx hb d_Words_init_25 rfl (lv_at hl 0 rfl) ?_
  refine lv_iconst (v := 0) hx hb d_Words_init_26 (by decide) ?_
  refine nw_put C w 0 rfl rfl 3 (by decide) w_332 rfl (by first | rfl | decide) (by first | rfl | decide) (Nat.le_of_ble_eq_true rfl) d_Words_init_27 (fun H locs w => ?_)
  have w : nw_W D A s H locs [(b, .inr (8, [.ref q0, .ref q1, .int 0, .int 0])), (q0, .inl (g.1, 50, .inl (fun _ => 0))), (q1, .inl (g.1, 24, .inl (fun _ => 0)))] := w
  refine nw_ret (rm := rm_Words_init) (W1 := W1_Words_init) hA C hr hlk (fun i => ([q0, q1] : List Nat).getD i 0) w ?_ ?_ d_Words_init_30 <;> exact Nat.le_of_ble_eq_true rfl
theorem pd_Words : "WhichClub$Words" ≠ "java/lang/invoke/MethodHandle" ∧ "WhichClub$Words" ≠ "java/lang/invoke/VarHandle" ∧ (parseMethodDescriptor "()V").map (fun d => d.parameters.length) = some 0 := by decide +kernel
theorem d_Changes_init_0 : decode prog_2_method_1_code 0 = .ok (.aload_n 0, 1) := by decide +kernel
theorem d_Changes_init_1 : decode prog_2_method_1_code 1 = .ok (.invokespecial 1, 3) := by decide +kernel
theorem d_Changes_init_4 : decode prog_2_method_1_code 4 = .ok (.aload_n 0, 1) := by decide +kernel
theorem d_Changes_init_5 : decode prog_2_method_1_code 5 = .ok (.bipush 40, 2) := by decide +kernel
theorem d_Changes_init_7 : decode prog_2_method_1_code 7 = .ok (.newarray .int, 2) := by decide +kernel
theorem d_Changes_init_9 : decode prog_2_method_1_code 9 = .ok (.putfield 9, 3) := by decide +kernel
theorem d_Changes_init_12 : decode prog_2_method_1_code 12 = .ok (.aload_n 0, 1) := by decide +kernel
theorem d_Changes_init_13 : decode prog_2_method_1_code 13 = .ok (.bipush 40, 2) := by decide +kernel
theorem d_Changes_init_15 : decode prog_2_method_1_code 15 = .ok (.newarray .int, 2) := by decide +kernel
theorem d_Changes_init_17 : decode prog_2_method_1_code 17 = .ok (.putfield 13, 3) := by decide +kernel
theorem d_Changes_init_20 : decode prog_2_method_1_code 20 = .ok (.aload_n 0, 1) := by decide +kernel
theorem d_Changes_init_21 : decode prog_2_method_1_code 21 = .ok (.bipush 40, 2) := by decide +kernel
theorem d_Changes_init_23 : decode prog_2_method_1_code 23 = .ok (.newarray .int, 2) := by decide +kernel
theorem d_Changes_init_25 : decode prog_2_method_1_code 25 = .ok (.putfield 16, 3) := by decide +kernel
theorem d_Changes_init_28 : decode prog_2_method_1_code 28 = .ok (.aload_n 0, 1) := by decide +kernel
theorem d_Changes_init_29 : decode prog_2_method_1_code 29 = .ok (.bipush 40, 2) := by decide +kernel
theorem d_Changes_init_31 : decode prog_2_method_1_code 31 = .ok (.newarray .int, 2) := by decide +kernel
theorem d_Changes_init_33 : decode prog_2_method_1_code 33 = .ok (.putfield 19, 3) := by decide +kernel
theorem d_Changes_init_36 : decode prog_2_method_1_code 36 = .ok (.aload_n 0, 1) := by decide +kernel
theorem d_Changes_init_37 : decode prog_2_method_1_code 37 = .ok (.iconst 0, 1) := by decide +kernel
theorem d_Changes_init_38 : decode prog_2_method_1_code 38 = .ok (.putfield 22, 3) := by decide +kernel
theorem d_Changes_init_41 : decode prog_2_method_1_code 41 = .ok (.aload_n 0, 1) := by decide +kernel
theorem d_Changes_init_42 : decode prog_2_method_1_code 42 = .ok (.iconst 0, 1) := by decide +kernel
theorem d_Changes_init_43 : decode prog_2_method_1_code 43 = .ok (.putfield 26, 3) := by decide +kernel
theorem d_Changes_init_46 : decode prog_2_method_1_code 46 = .ok (.return_, 1) := by decide +kernel
def W1_Changes_init (g : am_G) (b : Nat) (qs : Nat → Nat) : va_W := [(b, .inr (7, [.ref (qs 0), .ref (qs 1), .ref (qs 2), .ref (qs 3), .int 0, .int 0])), ((qs 0), .inl (g.1, 40, .inl (fun _ => 0))), ((qs 1), .inl (g.1, 40, .inl (fun _ => 0))), ((qs 2), .inl (g.1, 40, .inl (fun _ => 0))), ((qs 3), .inl (g.1, 40, .inl (fun _ => 0)))]
abbrev rm_Changes_init : Room := { frames := 1, cells := 4, slots := 160, locals := 40 }
set_option maxRecDepth 100000 in
set_option maxHeartbeats 4000000 in
theorem c_Changes_init : nw_M (fun _ => True) ⟨"WhichClub$Changes", "<init>", "()V"⟩ prog_2_method_1_code 1 rm_Changes_init [] (.inr (7, [.null, .null, .null, .null, .int 0, .int 0])) (W1_Changes_init) := by
  refine nw_enter (by decide) rfl (fun _ => (Nat.le_of_ble_eq_true rfl)) (fun p l e s m args below meth c D g b ls H locs C hin hr hlk w hl hX => ?_)
  have hx := C.1
  have hb := C.2.1
  generalize hA : va_A [(b, (.inr (7, [.null, .null, .null, .null, .int 0, .int 0]) : va_E))] s.heap.size = A at C w
  have hl : lv_has ls 1 [(0, .ref b)] := hl
  refine lv_aload_n hx hb d_Changes_init_0 rfl (lv_at hl 0 rfl) ?_
  refine nw_objInit C wn_303 wn_108 wn_109 hl.1 d_Changes_init_1 (Nat.le_of_ble_eq_true rfl) (Nat.le_of_ble_eq_true rfl) ?_
  refine lv_aload_n hx hb d_Changes_init_4 rfl (lv_at hl 0 rfl) ?_
  refine lv_bipush (v := 40) hx hb d_Changes_init_5 (by decide) ?_
  refine nw_newI (N := 40) C w (by decide) (by decide) (by decide) (Nat.le_of_ble_eq_true rfl) (Nat.le_of_ble_eq_true rfl) d_Changes_init_7 (fun q0 H w => ?_)
  have w : nw_W D A s H locs [(b, .inr (7, [.null, .null, .null, .null, .int 0, .int 0])), (q0, .inl (g.1, 40, .inl (fun _ => 0)))] := w
  refine W.widen (k := 1) (n := 40) (Nat.le_of_ble_eq_true rfl) (Nat.le_of_ble_eq_true rfl) ?_
  refine nw_putF C w hin 0 rfl rfl 0 (by decide) w_304 rfl (by first | rfl | decide) (by first | rfl | decide) (Nat.le_of_ble_eq_true rfl) d_Changes_init_9 (fun H locs w => ?_)
  have w : nw_W D A s H locs [(b, .inr (7, [.ref q0, .null, .null, .null, .int 0, .int 0])), (q0, .inl (g.1, 40, .inl (fun _ => 0)))] := w
  refine lv_aload_n hx hb d_Changes_init_12 rfl (lv_at hl 0 rfl) ?_
  refine lv_bipush (v := 40) hx hb d_Changes_init_13 (by decide) ?_
  refine nw_newI (N := 40) C w (by decide) (by decide) (by decide) (Nat.le_of_ble_eq_true rfl) (Nat.le_of_ble_eq_true rfl) d_Changes_init_15 (fun q1 H w => ?_)
  have w : nw_W D A s H locs [(b, .inr (7, [.ref q0, .null, .null, .null, .int 0, .int 0])), (q0, .inl (g.1, 40, .inl (fun _ => 0))), (q1, .inl (g.1, 40, .inl (fun _ => 0)))] := w
  refine W.widen (k := 2) (n := 80) (Nat.le_of_ble_eq_true rfl) (Nat.le_of_ble_eq_true rfl) ?_
  refine nw_putF C w hin 0 rfl rfl 1 (by decide) w_305 rfl (by first | rfl | decide) (by first | rfl | decide) (Nat.le_of_ble_eq_true rfl) d_Changes_init_17 (fun H locs w => ?_)
  have w : nw_W D A s H locs [(b, .inr (7, [.ref q0, .ref q1, .null, .null, .int 0, .int 0])), (q0, .inl (g.1, 40, .inl (fun _ => 0))), (q1, .inl (g.1, 40, .inl (fun _ => 0)))] := w
  refine lv_aload_n hx hb d_Changes_init_20 rfl (lv_at hl 0 rfl) ?_
  refine lv_bipush (v := 40) hx hb d_Changes_init_21 (by decide) ?_
  refine nw_newI (N := 40) C w (by decide) (by decide) (by decide) (Nat.le_of_ble_eq_true rfl) (Nat.le_of_ble_eq_true rfl) d_Changes_init_23 (fun q2 H w => ?_)
  have w : nw_W D A s H locs [(b, .inr (7, [.ref q0, .ref q1, .null, .null, .int 0, .int 0])), (q0, .inl (g.1, 40, .inl (fun _ => 0))), (q1, .inl (g.1, 40, .inl (fun _ => 0))), (q2, .inl (g.1, 40, .inl (fun _ => 0)))] := w
  refine W.widen (k := 3) (n := 120) (Nat.le_of_ble_eq_true rfl) (Nat.le_of_ble_eq_true rfl) ?_
  refine nw_putF C w hin 0 rfl rfl 2 (by decide) w_306 rfl (by first | rfl | decide) (by first | rfl | decide) (Nat.le_of_ble_eq_true rfl) d_Changes_init_25 (fun H locs w => ?_)
  have w : nw_W D A s H locs [(b, .inr (7, [.ref q0, .ref q1, .ref q2, .null, .int 0, .int 0])), (q0, .inl (g.1, 40, .inl (fun _ => 0))), (q1, .inl (g.1, 40, .inl (fun _ => 0))), (q2, .inl (g.1, 40, .inl (fun _ => 0)))] := w
  refine lv_aload_n hx hb d_Changes_init_28 rfl (lv_at hl 0 rfl) ?_
  refine lv_bipush (v := 40) hx hb d_Changes_init_29 (by decide) ?_
  refine nw_newI (N := 40) C w (by decide) (by decide) (by decide) (Nat.le_of_ble_eq_true rfl) (Nat.le_of_ble_eq_true rfl) d_Changes_init_31 (fun q3 H w => ?_)
  have w : nw_W D A s H locs [(b, .inr (7, [.ref q0, .ref q1, .ref q2, .null, .int 0, .int 0])), (q0, .inl (g.1, 40, .inl (fun _ => 0))), (q1, .inl (g.1, 40, .inl (fun _ => 0))), (q2, .inl (g.1, 40, .inl (fun _ => 0))), (q3, .inl (g.1, 40, .inl (fun _ => 0)))] := w
  refine W.widen (k := 4) (n := 160) (Nat.le_of_ble_eq_true rfl) (Nat.le_of_ble_eq_true rfl) ?_
  refine nw_putF C w hin 0 rfl rfl 3 (by decide) w_307 rfl (by first | rfl | decide) (by first | rfl | decide) (Nat.le_of_ble_eq_true rfl) d_Changes_init_33 (fun H locs w => ?_)
  have w : nw_W D A s H locs [(b, .inr (7, [.ref q0, .ref q1, .ref q2, .ref q3, .int 0, .int 0])), (q0, .inl (g.1, 40, .inl (fun _ => 0))), (q1, .inl (g.1, 40, .inl (fun _ => 0))), (q2, .inl (g.1, 40, .inl (fun _ => 0))), (q3, .inl (g.1, 40, .inl (fun _ => 0)))] := w
  refine lv_aload_n hx hb d_Changes_init_36 rfl (lv_at hl 0 rfl) ?_
  refine lv_iconst (v := 0) hx hb d_Changes_init_37 (by decide) ?_
  refine nw_put C w 0 rfl rfl 4 (by decide) w_308 rfl (by first | rfl | decide) (by first | rfl | decide) (Nat.le_of_ble_eq_true rfl) d_Changes_init_38 (fun H locs w => ?_)
  have w : nw_W D A s H locs [(b, .inr (7, [.ref q0, .ref q1, .ref q2, .ref q3, .int 0, .int 0])), (q0, .inl (g.1, 40, .inl (fun _ => 0))), (q1, .inl (g.1, 40, .inl (fun _ => 0))), (q2, .inl (g.1, 40, .inl (fun _ => 0))), (q3, .inl (g.1, 40, .inl (fun _ => 0)))] := w
  refine lv_aload_n hx hb d_Changes_init_41 rfl (lv_at hl 0 rfl) ?_
  refine lv_iconst (v := 0) hx hb d_Changes_init_42 (by decide) ?_
  refine nw_put C w 0 rfl rfl 5 (by decide) w_309 rfl (by first | rfl | decide) (by first | rfl | decide) (Nat.le_of_ble_eq_true rfl) d_Changes_init_43 (fun H locs w => ?_)
  have w : nw_W D A s H locs [(b, .inr (7, [.ref q0, .ref q1, .ref q2, .ref q3, .int 0, .int 0])), (q0, .inl (g.1, 40, .inl (fun _ => 0))), (q1, .inl (g.1, 40, .inl (fun _ => 0))), (q2, .inl (g.1, 40, .inl (fun _ => 0))), (q3, .inl (g.1, 40, .inl (fun _ => 0)))] := w
  refine nw_ret (rm := rm_Changes_init) (W1 := W1_Changes_init) hA C hr hlk (fun i => ([q0, q1, q2, q3] : List Nat).getD i 0) w ?_ ?_ d_Changes_init_46 <;> exact Nat.le_of_ble_eq_true rfl
theorem pd_Changes : "WhichClub$Changes" ≠ "java/lang/invoke/MethodHandle" ∧ "WhichClub$Changes" ≠ "java/lang/invoke/VarHandle" ∧ (parseMethodDescriptor "()V").map (fun d => d.parameters.length) = some 0 := by decide +kernel
theorem d_Rounds_init_0 : decode prog_8_method_1_code 0 = .ok (.aload_n 0, 1) := by decide +kernel
theorem d_Rounds_init_1 : decode prog_8_method_1_code 1 = .ok (.invokespecial 3, 3) := by decide +kernel
theorem d_Rounds_init_4 : decode prog_8_method_1_code 4 = .ok (.aload_n 0, 1) := by decide +kernel
theorem d_Rounds_init_5 : decode prog_8_method_1_code 5 = .ok (.aload_n 1, 1) := by decide +kernel
theorem d_Rounds_init_6 : decode prog_8_method_1_code 6 = .ok (.putfield 9, 3) := by decide +kernel
theorem d_Rounds_init_9 : decode prog_8_method_1_code 9 = .ok (.aload_n 0, 1) := by decide +kernel
theorem d_Rounds_init_10 : decode prog_8_method_1_code 10 = .ok (.aload_n 2, 1) := by decide +kernel
theorem d_Rounds_init_11 : decode prog_8_method_1_code 11 = .ok (.putfield 15, 3) := by decide +kernel
theorem d_Rounds_init_14 : decode prog_8_method_1_code 14 = .ok (.return_, 1) := by decide +kernel
def W1_Rounds_init (a1 a2 : Nat) (g : am_G) (b : Nat) (qs : Nat → Nat) : va_W := [(b, .inr (4, [.ref a1, .ref a2]))]
abbrev rm_Rounds_init : Room := { frames := 1, cells := 0, slots := 0, locals := 40 }
set_option maxRecDepth 100000 in
set_option maxHeartbeats 4000000 in
theorem c_Rounds_init (a1 a2 : Nat) : nw_M (fun _ => True) ⟨"WhichClub$Rounds", "<init>", "(LWhichClub$Hole;LWhichClub$Reckoning;)V"⟩ prog_8_method_1_code 3 rm_Rounds_init [.ref a1, .ref a2] (.inr (4, [.null, .null])) (W1_Rounds_init a1 a2) := by
  refine nw_enter (by decide) rfl (fun _ => (Nat.le_of_ble_eq_true rfl)) (fun p l e s m args below meth c D g b ls H locs C hin hr hlk w hl hX => ?_)
  have hx := C.1
  have hb := C.2.1
  generalize hA : va_A [(b, (.inr (4, [.null, .null]) : va_E))] s.heap.size = A at C w
  have hl : lv_has ls 3 [(0, .ref b), (1, .ref a1), (2, .ref a2)] := hl
  refine lv_aload_n hx hb d_Rounds_init_0 rfl (lv_at hl 0 rfl) ?_
  refine nw_objInit C wn_246 wn_108 wn_109 hl.1 d_Rounds_init_1 (Nat.le_of_ble_eq_true rfl) (Nat.le_of_ble_eq_true rfl) ?_
  refine lv_aload_n hx hb d_Rounds_init_4 rfl (lv_at hl 0 rfl) ?_
  refine lv_aload_n hx hb d_Rounds_init_5 rfl (lv_at hl 1 rfl) ?_
  refine nw_putF C w hin 0 rfl rfl 0 (by decide) w_247 rfl (by first | rfl | decide) (by first | rfl | decide) (Nat.le_of_ble_eq_true rfl) d_Rounds_init_6 (fun H locs w => ?_)
  have w : nw_W D A s H locs [(b, .inr (4, [.ref a1, .null]))] := w
  refine lv_aload_n hx hb d_Rounds_init_9 rfl (lv_at hl 0 rfl) ?_
  refine lv_aload_n hx hb d_Rounds_init_10 rfl (lv_at hl 2 rfl) ?_
  refine nw_putF C w hin 0 rfl rfl 1 (by decide) w_248 rfl (by first | rfl | decide) (by first | rfl | decide) (Nat.le_of_ble_eq_true rfl) d_Rounds_init_11 (fun H locs w => ?_)
  have w : nw_W D A s H locs [(b, .inr (4, [.ref a1, .ref a2]))] := w
  refine nw_ret (rm := rm_Rounds_init) (W1 := W1_Rounds_init a1 a2) hA C hr hlk (fun i => ([] : List Nat).getD i 0) w ?_ ?_ d_Rounds_init_14 <;> exact Nat.le_of_ble_eq_true rfl
theorem pd_Rounds : "WhichClub$Rounds" ≠ "java/lang/invoke/MethodHandle" ∧ "WhichClub$Rounds" ≠ "java/lang/invoke/VarHandle" ∧ (parseMethodDescriptor "(LWhichClub$Hole;LWhichClub$Reckoning;)V").map (fun d => d.parameters.length) = some 2 := by decide +kernel
theorem d_Draws_init_0 : decode prog_4_method_1_code 0 = .ok (.aload_n 0, 1) := by decide +kernel
theorem d_Draws_init_1 : decode prog_4_method_1_code 1 = .ok (.invokespecial 3, 3) := by decide +kernel
theorem d_Draws_init_4 : decode prog_4_method_1_code 4 = .ok (.aload_n 0, 1) := by decide +kernel
theorem d_Draws_init_5 : decode prog_4_method_1_code 5 = .ok (.iconst 0, 1) := by decide +kernel
theorem d_Draws_init_6 : decode prog_4_method_1_code 6 = .ok (.putfield 9, 3) := by decide +kernel
theorem d_Draws_init_9 : decode prog_4_method_1_code 9 = .ok (.aload_n 0, 1) := by decide +kernel
theorem d_Draws_init_10 : decode prog_4_method_1_code 10 = .ok (.iconst 0, 1) := by decide +kernel
theorem d_Draws_init_11 : decode prog_4_method_1_code 11 = .ok (.putfield 15, 3) := by decide +kernel
theorem d_Draws_init_14 : decode prog_4_method_1_code 14 = .ok (.aload_n 0, 1) := by decide +kernel
theorem d_Draws_init_15 : decode prog_4_method_1_code 15 = .ok (.iconst 0, 1) := by decide +kernel
theorem d_Draws_init_16 : decode prog_4_method_1_code 16 = .ok (.putfield 18, 3) := by decide +kernel
theorem d_Draws_init_19 : decode prog_4_method_1_code 19 = .ok (.aload_n 0, 1) := by decide +kernel
theorem d_Draws_init_20 : decode prog_4_method_1_code 20 = .ok (.aload_n 1, 1) := by decide +kernel
theorem d_Draws_init_21 : decode prog_4_method_1_code 21 = .ok (.putfield 21, 3) := by decide +kernel
theorem d_Draws_init_24 : decode prog_4_method_1_code 24 = .ok (.aload_n 0, 1) := by decide +kernel
theorem d_Draws_init_25 : decode prog_4_method_1_code 25 = .ok (.aload_n 2, 1) := by decide +kernel
theorem d_Draws_init_26 : decode prog_4_method_1_code 26 = .ok (.putfield 25, 3) := by decide +kernel
theorem d_Draws_init_29 : decode prog_4_method_1_code 29 = .ok (.return_, 1) := by decide +kernel
def W1_Draws_init (a1 a2 : Nat) (g : am_G) (b : Nat) (qs : Nat → Nat) : va_W := [(b, .inr (5, [.ref a1, .ref a2, .int 0, .int 0, .int 0]))]
abbrev rm_Draws_init : Room := { frames := 1, cells := 0, slots := 0, locals := 40 }
set_option maxRecDepth 100000 in
set_option maxHeartbeats 4000000 in
theorem c_Draws_init (a1 a2 : Nat) : nw_M (fun _ => True) ⟨"WhichClub$Draws", "<init>", "(LWhichClub$Hole;LWhichClub$Reckoning;)V"⟩ prog_4_method_1_code 3 rm_Draws_init [.ref a1, .ref a2] (.inr (5, [.null, .null, .int 0, .int 0, .int 0])) (W1_Draws_init a1 a2) := by
  refine nw_enter (by decide) rfl (fun _ => (Nat.le_of_ble_eq_true rfl)) (fun p l e s m args below meth c D g b ls H locs C hin hr hlk w hl hX => ?_)
  have hx := C.1
  have hb := C.2.1
  generalize hA : va_A [(b, (.inr (5, [.null, .null, .int 0, .int 0, .int 0]) : va_E))] s.heap.size = A at C w
  have hl : lv_has ls 3 [(0, .ref b), (1, .ref a1), (2, .ref a2)] := hl
  refine lv_aload_n hx hb d_Draws_init_0 rfl (lv_at hl 0 rfl) ?_
  refine nw_objInit C wn_259 wn_108 wn_109 hl.1 d_Draws_init_1 (Nat.le_of_ble_eq_true rfl) (Nat.le_of_ble_eq_true rfl) ?_
  refine lv_aload_n hx hb d_Draws_init_4 rfl (lv_at hl 0 rfl) ?_
  refine lv_iconst (v := 0) hx hb d_Draws_init_5 (by decide) ?_
  refine nw_put C w 0 rfl rfl 2 (by decide) w_262 rfl (by first | rfl | decide) (by first | rfl | decide) (Nat.le_of_ble_eq_true rfl) d_Draws_init_6 (fun H locs w => ?_)
  have w : nw_W D A s H locs [(b, .inr (5, [.null, .null, .int 0, .int 0, .int 0]))] := w
  refine lv_aload_n hx hb d_Draws_init_9 rfl (lv_at hl 0 rfl) ?_
  refine lv_iconst (v := 0) hx hb d_Draws_init_10 (by decide) ?_
  refine nw_put C w 0 rfl rfl 3 (by decide) w_263 rfl (by first | rfl | decide) (by first | rfl | decide) (Nat.le_of_ble_eq_true rfl) d_Draws_init_11 (fun H locs w => ?_)
  have w : nw_W D A s H locs [(b, .inr (5, [.null, .null, .int 0, .int 0, .int 0]))] := w
  refine lv_aload_n hx hb d_Draws_init_14 rfl (lv_at hl 0 rfl) ?_
  refine lv_iconst (v := 0) hx hb d_Draws_init_15 (by decide) ?_
  refine nw_put C w 0 rfl rfl 4 (by decide) w_264 rfl (by first | rfl | decide) (by first | rfl | decide) (Nat.le_of_ble_eq_true rfl) d_Draws_init_16 (fun H locs w => ?_)
  have w : nw_W D A s H locs [(b, .inr (5, [.null, .null, .int 0, .int 0, .int 0]))] := w
  refine lv_aload_n hx hb d_Draws_init_19 rfl (lv_at hl 0 rfl) ?_
  refine lv_aload_n hx hb d_Draws_init_20 rfl (lv_at hl 1 rfl) ?_
  refine nw_putF C w hin 0 rfl rfl 0 (by decide) w_260 rfl (by first | rfl | decide) (by first | rfl | decide) (Nat.le_of_ble_eq_true rfl) d_Draws_init_21 (fun H locs w => ?_)
  have w : nw_W D A s H locs [(b, .inr (5, [.ref a1, .null, .int 0, .int 0, .int 0]))] := w
  refine lv_aload_n hx hb d_Draws_init_24 rfl (lv_at hl 0 rfl) ?_
  refine lv_aload_n hx hb d_Draws_init_25 rfl (lv_at hl 2 rfl) ?_
  refine nw_putF C w hin 0 rfl rfl 1 (by decide) w_261 rfl (by first | rfl | decide) (by first | rfl | decide) (Nat.le_of_ble_eq_true rfl) d_Draws_init_26 (fun H locs w => ?_)
  have w : nw_W D A s H locs [(b, .inr (5, [.ref a1, .ref a2, .int 0, .int 0, .int 0]))] := w
  refine nw_ret (rm := rm_Draws_init) (W1 := W1_Draws_init a1 a2) hA C hr hlk (fun i => ([] : List Nat).getD i 0) w ?_ ?_ d_Draws_init_29 <;> exact Nat.le_of_ble_eq_true rfl
theorem pd_Draws : "WhichClub$Draws" ≠ "java/lang/invoke/MethodHandle" ∧ "WhichClub$Draws" ≠ "java/lang/invoke/VarHandle" ∧ (parseMethodDescriptor "(LWhichClub$Hole;LWhichClub$Reckoning;)V").map (fun d => d.parameters.length) = some 2 := by decide +kernel
theorem d_Deed_init_0 : decode prog_3_method_1_code 0 = .ok (.aload_n 0, 1) := by decide +kernel
theorem d_Deed_init_1 : decode prog_3_method_1_code 1 = .ok (.invokespecial 3, 3) := by decide +kernel
theorem d_Deed_init_4 : decode prog_3_method_1_code 4 = .ok (.aload_n 0, 1) := by decide +kernel
theorem d_Deed_init_5 : decode prog_3_method_1_code 5 = .ok (.bipush 6, 2) := by decide +kernel
theorem d_Deed_init_7 : decode prog_3_method_1_code 7 = .ok (.newarray .int, 2) := by decide +kernel
theorem d_Deed_init_9 : decode prog_3_method_1_code 9 = .ok (.putfield 11, 3) := by decide +kernel
theorem d_Deed_init_12 : decode prog_3_method_1_code 12 = .ok (.aload_n 0, 1) := by decide +kernel
theorem d_Deed_init_13 : decode prog_3_method_1_code 13 = .ok (.bipush 6, 2) := by decide +kernel
theorem d_Deed_init_15 : decode prog_3_method_1_code 15 = .ok (.newarray .int, 2) := by decide +kernel
theorem d_Deed_init_17 : decode prog_3_method_1_code 17 = .ok (.putfield 15, 3) := by decide +kernel
theorem d_Deed_init_20 : decode prog_3_method_1_code 20 = .ok (.aload_n 0, 1) := by decide +kernel
theorem d_Deed_init_21 : decode prog_3_method_1_code 21 = .ok (.iconst 0, 1) := by decide +kernel
theorem d_Deed_init_22 : decode prog_3_method_1_code 22 = .ok (.putfield 18, 3) := by decide +kernel
theorem d_Deed_init_25 : decode prog_3_method_1_code 25 = .ok (.aload_n 0, 1) := by decide +kernel
theorem d_Deed_init_26 : decode prog_3_method_1_code 26 = .ok (.aload_n 1, 1) := by decide +kernel
theorem d_Deed_init_27 : decode prog_3_method_1_code 27 = .ok (.putfield 22, 3) := by decide +kernel
theorem d_Deed_init_30 : decode prog_3_method_1_code 30 = .ok (.aload_n 0, 1) := by decide +kernel
theorem d_Deed_init_31 : decode prog_3_method_1_code 31 = .ok (.aload_n 2, 1) := by decide +kernel
theorem d_Deed_init_32 : decode prog_3_method_1_code 32 = .ok (.putfield 26, 3) := by decide +kernel
theorem d_Deed_init_35 : decode prog_3_method_1_code 35 = .ok (.return_, 1) := by decide +kernel
def W1_Deed_init (a1 a2 : Nat) (g : am_G) (b : Nat) (qs : Nat → Nat) : va_W := [(b, .inr (6, [.ref a1, .ref a2, .ref (qs 0), .ref (qs 1), .int 0])), ((qs 0), .inl (g.1, 6, .inl (fun _ => 0))), ((qs 1), .inl (g.1, 6, .inl (fun _ => 0)))]
abbrev rm_Deed_init : Room := { frames := 1, cells := 2, slots := 12, locals := 40 }
set_option maxRecDepth 100000 in
set_option maxHeartbeats 4000000 in
theorem c_Deed_init (a1 a2 : Nat) : nw_M (fun _ => True) ⟨"WhichClub$Deed", "<init>", "(LWhichClub$Hole;LWhichClub$Draws;)V"⟩ prog_3_method_1_code 3 rm_Deed_init [.ref a1, .ref a2] (.inr (6, [.null, .null, .null, .null, .int 0])) (W1_Deed_init a1 a2) := by
  refine nw_enter (by decide) rfl (fun _ => (Nat.le_of_ble_eq_true rfl)) (fun p l e s m args below meth c D g b ls H locs C hin hr hlk w hl hX => ?_)
  have hx := C.1
  have hb := C.2.1
  generalize hA : va_A [(b, (.inr (6, [.null, .null, .null, .null, .int 0]) : va_E))] s.heap.size = A at C w
  have hl : lv_has ls 3 [(0, .ref b), (1, .ref a1), (2, .ref a2)] := hl
  refine lv_aload_n hx hb d_Deed_init_0 rfl (lv_at hl 0 rfl) ?_
  refine nw_objInit C wn_281 wn_108 wn_109 hl.1 d_Deed_init_1 (Nat.le_of_ble_eq_true rfl) (Nat.le_of_ble_eq_true rfl) ?_
  refine lv_aload_n hx hb d_Deed_init_4 rfl (lv_at hl 0 rfl) ?_
  refine lv_bipush (v := 6) hx hb d_Deed_init_5 (by decide) ?_
  refine nw_newI (N := 6) C w (by decide) (by decide) (by decide) (Nat.le_of_ble_eq_true rfl) (Nat.le_of_ble_eq_true rfl) d_Deed_init_7 (fun q0 H w => ?_)
  have w : nw_W D A s H locs [(b, .inr (6, [.null, .null, .null, .null, .int 0])), (q0, .inl (g.1, 6, .inl (fun _ => 0)))] := w
  refine W.widen (k := 1) (n := 6) (Nat.le_of_ble_eq_true rfl) (Nat.le_of_ble_eq_true rfl) ?_
  refine nw_putF C w hin 0 rfl rfl 2 (by decide) w_284 rfl (by first | rfl | decide) (by first | rfl | decide) (Nat.le_of_ble_eq_true rfl) d_Deed_init_9 (fun H locs w => ?_)
  have w : nw_W D A s H locs [(b, .inr (6, [.null, .null, .ref q0, .null, .int 0])), (q0, .inl (g.1, 6, .inl (fun _ => 0)))] := w
  refine lv_aload_n hx hb d_Deed_init_12 rfl (lv_at hl 0 rfl) ?_
  refine lv_bipush (v := 6) hx hb d_Deed_init_13 (by decide) ?_
  refine nw_newI (N := 6) C w (by decide) (by decide) (by decide) (Nat.le_of_ble_eq_true rfl) (Nat.le_of_ble_eq_true rfl) d_Deed_init_15 (fun q1 H w => ?_)
  have w : nw_W D A s H locs [(b, .inr (6, [.null, .null, .ref q0, .null, .int 0])), (q0, .inl (g.1, 6, .inl (fun _ => 0))), (q1, .inl (g.1, 6, .inl (fun _ => 0)))] := w
  refine W.widen (k := 2) (n := 12) (Nat.le_of_ble_eq_true rfl) (Nat.le_of_ble_eq_true rfl) ?_
  refine nw_putF C w hin 0 rfl rfl 3 (by decide) w_285 rfl (by first | rfl | decide) (by first | rfl | decide) (Nat.le_of_ble_eq_true rfl) d_Deed_init_17 (fun H locs w => ?_)
  have w : nw_W D A s H locs [(b, .inr (6, [.null, .null, .ref q0, .ref q1, .int 0])), (q0, .inl (g.1, 6, .inl (fun _ => 0))), (q1, .inl (g.1, 6, .inl (fun _ => 0)))] := w
  refine lv_aload_n hx hb d_Deed_init_20 rfl (lv_at hl 0 rfl) ?_
  refine lv_iconst (v := 0) hx hb d_Deed_init_21 (by decide) ?_
  refine nw_put C w 0 rfl rfl 4 (by decide) w_286 rfl (by first | rfl | decide) (by first | rfl | decide) (Nat.le_of_ble_eq_true rfl) d_Deed_init_22 (fun H locs w => ?_)
  have w : nw_W D A s H locs [(b, .inr (6, [.null, .null, .ref q0, .ref q1, .int 0])), (q0, .inl (g.1, 6, .inl (fun _ => 0))), (q1, .inl (g.1, 6, .inl (fun _ => 0)))] := w
  refine lv_aload_n hx hb d_Deed_init_25 rfl (lv_at hl 0 rfl) ?_
  refine lv_aload_n hx hb d_Deed_init_26 rfl (lv_at hl 1 rfl) ?_
  refine nw_putF C w hin 0 rfl rfl 0 (by decide) w_282 rfl (by first | rfl | decide) (by first | rfl | decide) (Nat.le_of_ble_eq_true rfl) d_Deed_init_27 (fun H locs w => ?_)
  have w : nw_W D A s H locs [(b, .inr (6, [.ref a1, .null, .ref q0, .ref q1, .int 0])), (q0, .inl (g.1, 6, .inl (fun _ => 0))), (q1, .inl (g.1, 6, .inl (fun _ => 0)))] := w
  refine lv_aload_n hx hb d_Deed_init_30 rfl (lv_at hl 0 rfl) ?_
  refine lv_aload_n hx hb d_Deed_init_31 rfl (lv_at hl 2 rfl) ?_
  refine nw_putF C w hin 0 rfl rfl 1 (by decide) w_283 rfl (by first | rfl | decide) (by first | rfl | decide) (Nat.le_of_ble_eq_true rfl) d_Deed_init_32 (fun H locs w => ?_)
  have w : nw_W D A s H locs [(b, .inr (6, [.ref a1, .ref a2, .ref q0, .ref q1, .int 0])), (q0, .inl (g.1, 6, .inl (fun _ => 0))), (q1, .inl (g.1, 6, .inl (fun _ => 0)))] := w
  refine nw_ret (rm := rm_Deed_init) (W1 := W1_Deed_init a1 a2) hA C hr hlk (fun i => ([q0, q1] : List Nat).getD i 0) w ?_ ?_ d_Deed_init_35 <;> exact Nat.le_of_ble_eq_true rfl
theorem pd_Deed : "WhichClub$Deed" ≠ "java/lang/invoke/MethodHandle" ∧ "WhichClub$Deed" ≠ "java/lang/invoke/VarHandle" ∧ (parseMethodDescriptor "(LWhichClub$Hole;LWhichClub$Draws;)V").map (fun d => d.parameters.length) = some 2 := by decide +kernel
theorem d_Reck_init_0 : decode prog_7_method_1_code 0 = .ok (.aload_n 0, 1) := by decide +kernel
theorem d_Reck_init_1 : decode prog_7_method_1_code 1 = .ok (.invokespecial 3, 3) := by decide +kernel
theorem d_Reck_init_4 : decode prog_7_method_1_code 4 = .ok (.aload_n 0, 1) := by decide +kernel
theorem d_Reck_init_5 : decode prog_7_method_1_code 5 = .ok (.sipush 155, 3) := by decide +kernel
theorem d_Reck_init_8 : decode prog_7_method_1_code 8 = .ok (.newarray .long, 2) := by decide +kernel
theorem d_Reck_init_10 : decode prog_7_method_1_code 10 = .ok (.putfield 11, 3) := by decide +kernel
theorem d_Reck_init_13 : decode prog_7_method_1_code 13 = .ok (.aload_n 0, 1) := by decide +kernel
theorem d_Reck_init_14 : decode prog_7_method_1_code 14 = .ok (.sipush 155, 3) := by decide +kernel
theorem d_Reck_init_17 : decode prog_7_method_1_code 17 = .ok (.newarray .long, 2) := by decide +kernel
theorem d_Reck_init_19 : decode prog_7_method_1_code 19 = .ok (.putfield 17, 3) := by decide +kernel
theorem d_Reck_init_22 : decode prog_7_method_1_code 22 = .ok (.aload_n 0, 1) := by decide +kernel
theorem d_Reck_init_23 : decode prog_7_method_1_code 23 = .ok (.sipush 155, 3) := by decide +kernel
theorem d_Reck_init_26 : decode prog_7_method_1_code 26 = .ok (.newarray .int, 2) := by decide +kernel
theorem d_Reck_init_28 : decode prog_7_method_1_code 28 = .ok (.putfield 20, 3) := by decide +kernel
theorem d_Reck_init_31 : decode prog_7_method_1_code 31 = .ok (.aload_n 0, 1) := by decide +kernel
theorem d_Reck_init_32 : decode prog_7_method_1_code 32 = .ok (.bipush 31, 2) := by decide +kernel
theorem d_Reck_init_34 : decode prog_7_method_1_code 34 = .ok (.newarray .int, 2) := by decide +kernel
theorem d_Reck_init_36 : decode prog_7_method_1_code 36 = .ok (.putfield 24, 3) := by decide +kernel
theorem d_Reck_init_39 : decode prog_7_method_1_code 39 = .ok (.aload_n 0, 1) := by decide +kernel
theorem d_Reck_init_40 : decode prog_7_method_1_code 40 = .ok (.iconst 0, 1) := by decide +kernel
theorem d_Reck_init_41 : decode prog_7_method_1_code 41 = .ok (.putfield 27, 3) := by decide +kernel
theorem d_Reck_init_44 : decode prog_7_method_1_code 44 = .ok (.aload_n 0, 1) := by decide +kernel
theorem d_Reck_init_45 : decode prog_7_method_1_code 45 = .ok (.iconst 0, 1) := by decide +kernel
theorem d_Reck_init_46 : decode prog_7_method_1_code 46 = .ok (.putfield 31, 3) := by decide +kernel
theorem d_Reck_init_49 : decode prog_7_method_1_code 49 = .ok (.aload_n 0, 1) := by decide +kernel
theorem d_Reck_init_50 : decode prog_7_method_1_code 50 = .ok (.iconst 0, 1) := by decide +kernel
theorem d_Reck_init_51 : decode prog_7_method_1_code 51 = .ok (.putfield 34, 3) := by decide +kernel
theorem d_Reck_init_54 : decode prog_7_method_1_code 54 = .ok (.aload_n 0, 1) := by decide +kernel
theorem d_Reck_init_55 : decode prog_7_method_1_code 55 = .ok (.iconst 0, 1) := by decide +kernel
theorem d_Reck_init_56 : decode prog_7_method_1_code 56 = .ok (.putfield 37, 3) := by decide +kernel
theorem d_Reck_init_59 : decode prog_7_method_1_code 59 = .ok (.aload_n 0, 1) := by decide +kernel
theorem d_Reck_init_60 : decode prog_7_method_1_code 60 = .ok (.iconst 0, 1) := by decide +kernel
theorem d_Reck_init_61 : decode prog_7_method_1_code 61 = .ok (.putfield 40, 3) := by decide +kernel
theorem d_Reck_init_64 : decode prog_7_method_1_code 64 = .ok (.aload_n 0, 1) := by decide +kernel
theorem d_Reck_init_65 : decode prog_7_method_1_code 65 = .ok (.iconst 0, 1) := by decide +kernel
theorem d_Reck_init_66 : decode prog_7_method_1_code 66 = .ok (.putfield 43, 3) := by decide +kernel
theorem d_Reck_init_69 : decode prog_7_method_1_code 69 = .ok (.aload_n 0, 1) := by decide +kernel
theorem d_Reck_init_70 : decode prog_7_method_1_code 70 = .ok (.iconst 0, 1) := by decide +kernel
theorem d_Reck_init_71 : decode prog_7_method_1_code 71 = .ok (.putfield 46, 3) := by decide +kernel
theorem d_Reck_init_74 : decode prog_7_method_1_code 74 = .ok (.aload_n 0, 1) := by decide +kernel
theorem d_Reck_init_75 : decode prog_7_method_1_code 75 = .ok (.lconst 0, 1) := by decide +kernel
theorem d_Reck_init_76 : decode prog_7_method_1_code 76 = .ok (.putfield 50, 3) := by decide +kernel
theorem d_Reck_init_79 : decode prog_7_method_1_code 79 = .ok (.aload_n 0, 1) := by decide +kernel
theorem d_Reck_init_80 : decode prog_7_method_1_code 80 = .ok (.lconst 0, 1) := by decide +kernel
theorem d_Reck_init_81 : decode prog_7_method_1_code 81 = .ok (.putfield 54, 3) := by decide +kernel
theorem d_Reck_init_84 : decode prog_7_method_1_code 84 = .ok (.aload_n 0, 1) := by decide +kernel
theorem d_Reck_init_85 : decode prog_7_method_1_code 85 = .ok (.aload_n 1, 1) := by decide +kernel
theorem d_Reck_init_86 : decode prog_7_method_1_code 86 = .ok (.putfield 57, 3) := by decide +kernel
theorem d_Reck_init_89 : decode prog_7_method_1_code 89 = .ok (.aload_n 0, 1) := by decide +kernel
theorem d_Reck_init_90 : decode prog_7_method_1_code 90 = .ok (.aload_n 2, 1) := by decide +kernel
theorem d_Reck_init_91 : decode prog_7_method_1_code 91 = .ok (.putfield 61, 3) := by decide +kernel
theorem d_Reck_init_94 : decode prog_7_method_1_code 94 = .ok (.return_, 1) := by decide +kernel
def W1_Reck_init (a1 a2 : Nat) (g : am_G) (b : Nat) (qs : Nat → Nat) : va_W := [(b, .inr (3, [.ref a1, .ref a2, .ref (qs 0), .ref (qs 1), .ref (qs 2), .ref (qs 3), .int 0, .int 0, .int 0, .int 0, .int 0, .int 0, .int 0, .long 0, .long 0])), ((qs 0), .inl (g.2.1, 155, .inr (.inl (fun _ => 0)))), ((qs 1), .inl (g.2.1, 155, .inr (.inl (fun _ => 0)))), ((qs 2), .inl (g.1, 155, .inl (fun _ => 0))), ((qs 3), .inl (g.1, 31, .inl (fun _ => 0)))]
abbrev rm_Reck_init : Room := { frames := 1, cells := 4, slots := 496, locals := 40 }
set_option maxRecDepth 100000 in
set_option maxHeartbeats 4000000 in
theorem c_Reck_init (a1 a2 : Nat) : nw_M (fun _ => True) ⟨"WhichClub$Reckoning", "<init>", "(LWhichClub$Hole;LWhichClub$Law;)V"⟩ prog_7_method_1_code 3 rm_Reck_init [.ref a1, .ref a2] (.inr (3, [.null, .null, .null, .null, .null, .null, .int 0, .int 0, .int 0, .int 0, .int 0, .int 0, .int 0, .long 0, .long 0])) (W1_Reck_init a1 a2) := by
  refine nw_enter (by decide) rfl (fun _ => (Nat.le_of_ble_eq_true rfl)) (fun p l e s m args below meth c D g b ls H locs C hin hr hlk w hl hX => ?_)
  have hx := C.1
  have hb := C.2.1
  generalize hA : va_A [(b, (.inr (3, [.null, .null, .null, .null, .null, .null, .int 0, .int 0, .int 0, .int 0, .int 0, .int 0, .int 0, .long 0, .long 0]) : va_E))] s.heap.size = A at C w
  have hl : lv_has ls 3 [(0, .ref b), (1, .ref a1), (2, .ref a2)] := hl
  refine lv_aload_n hx hb d_Reck_init_0 rfl (lv_at hl 0 rfl) ?_
  refine nw_objInit C wn_193 wn_108 wn_109 hl.1 d_Reck_init_1 (Nat.le_of_ble_eq_true rfl) (Nat.le_of_ble_eq_true rfl) ?_
  refine lv_aload_n hx hb d_Reck_init_4 rfl (lv_at hl 0 rfl) ?_
  refine lv_sipush (v := 155) hx hb d_Reck_init_5 (by decide) ?_
  refine nw_newL (N := 155) C w (by decide) (by decide) (by decide) (Nat.le_of_ble_eq_true rfl) (Nat.le_of_ble_eq_true rfl) d_Reck_init_8 (fun q0 H w => ?_)
  have w : nw_W D A s H locs [(b, .inr (3, [.null, .null, .null, .null, .null, .null, .int 0, .int 0, .int 0, .int 0, .int 0, .int 0, .int 0, .long 0, .long 0])), (q0, .inl (g.2.1, 155, .inr (.inl (fun _ => 0))))] := w
  refine W.widen (k := 1) (n := 155) (Nat.le_of_ble_eq_true rfl) (Nat.le_of_ble_eq_true rfl) ?_
  refine nw_putF C w hin 0 rfl rfl 2 (by decide) w_196 rfl (by first | rfl | decide) (by first | rfl | decide) (Nat.le_of_ble_eq_true rfl) d_Reck_init_10 (fun H locs w => ?_)
  have w : nw_W D A s H locs [(b, .inr (3, [.null, .null, .ref q0, .null, .null, .null, .int 0, .int 0, .int 0, .int 0, .int 0, .int 0, .int 0, .long 0, .long 0])), (q0, .inl (g.2.1, 155, .inr (.inl (fun _ => 0))))] := w
  refine lv_aload_n hx hb d_Reck_init_13 rfl (lv_at hl 0 rfl) ?_
  refine lv_sipush (v := 155) hx hb d_Reck_init_14 (by decide) ?_
  refine nw_newL (N := 155) C w (by decide) (by decide) (by decide) (Nat.le_of_ble_eq_true rfl) (Nat.le_of_ble_eq_true rfl) d_Reck_init_17 (fun q1 H w => ?_)
  have w : nw_W D A s H locs [(b, .inr (3, [.null, .null, .ref q0, .null, .null, .null, .int 0, .int 0, .int 0, .int 0, .int 0, .int 0, .int 0, .long 0, .long 0])), (q0, .inl (g.2.1, 155, .inr (.inl (fun _ => 0)))), (q1, .inl (g.2.1, 155, .inr (.inl (fun _ => 0))))] := w
  refine W.widen (k := 2) (n := 310) (Nat.le_of_ble_eq_true rfl) (Nat.le_of_ble_eq_true rfl) ?_
  refine nw_putF C w hin 0 rfl rfl 3 (by decide) w_197 rfl (by first | rfl | decide) (by first | rfl | decide) (Nat.le_of_ble_eq_true rfl) d_Reck_init_19 (fun H locs w => ?_)
  have w : nw_W D A s H locs [(b, .inr (3, [.null, .null, .ref q0, .ref q1, .null, .null, .int 0, .int 0, .int 0, .int 0, .int 0, .int 0, .int 0, .long 0, .long 0])), (q0, .inl (g.2.1, 155, .inr (.inl (fun _ => 0)))), (q1, .inl (g.2.1, 155, .inr (.inl (fun _ => 0))))] := w
  refine lv_aload_n hx hb d_Reck_init_22 rfl (lv_at hl 0 rfl) ?_
  refine lv_sipush (v := 155) hx hb d_Reck_init_23 (by decide) ?_
  refine nw_newI (N := 155) C w (by decide) (by decide) (by decide) (Nat.le_of_ble_eq_true rfl) (Nat.le_of_ble_eq_true rfl) d_Reck_init_26 (fun q2 H w => ?_)
  have w : nw_W D A s H locs [(b, .inr (3, [.null, .null, .ref q0, .ref q1, .null, .null, .int 0, .int 0, .int 0, .int 0, .int 0, .int 0, .int 0, .long 0, .long 0])), (q0, .inl (g.2.1, 155, .inr (.inl (fun _ => 0)))), (q1, .inl (g.2.1, 155, .inr (.inl (fun _ => 0)))), (q2, .inl (g.1, 155, .inl (fun _ => 0)))] := w
  refine W.widen (k := 3) (n := 465) (Nat.le_of_ble_eq_true rfl) (Nat.le_of_ble_eq_true rfl) ?_
  refine nw_putF C w hin 0 rfl rfl 4 (by decide) w_198 rfl (by first | rfl | decide) (by first | rfl | decide) (Nat.le_of_ble_eq_true rfl) d_Reck_init_28 (fun H locs w => ?_)
  have w : nw_W D A s H locs [(b, .inr (3, [.null, .null, .ref q0, .ref q1, .ref q2, .null, .int 0, .int 0, .int 0, .int 0, .int 0, .int 0, .int 0, .long 0, .long 0])), (q0, .inl (g.2.1, 155, .inr (.inl (fun _ => 0)))), (q1, .inl (g.2.1, 155, .inr (.inl (fun _ => 0)))), (q2, .inl (g.1, 155, .inl (fun _ => 0)))] := w
  refine lv_aload_n hx hb d_Reck_init_31 rfl (lv_at hl 0 rfl) ?_
  refine lv_bipush (v := 31) hx hb d_Reck_init_32 (by decide) ?_
  refine nw_newI (N := 31) C w (by decide) (by decide) (by decide) (Nat.le_of_ble_eq_true rfl) (Nat.le_of_ble_eq_true rfl) d_Reck_init_34 (fun q3 H w => ?_)
  have w : nw_W D A s H locs [(b, .inr (3, [.null, .null, .ref q0, .ref q1, .ref q2, .null, .int 0, .int 0, .int 0, .int 0, .int 0, .int 0, .int 0, .long 0, .long 0])), (q0, .inl (g.2.1, 155, .inr (.inl (fun _ => 0)))), (q1, .inl (g.2.1, 155, .inr (.inl (fun _ => 0)))), (q2, .inl (g.1, 155, .inl (fun _ => 0))), (q3, .inl (g.1, 31, .inl (fun _ => 0)))] := w
  refine W.widen (k := 4) (n := 496) (Nat.le_of_ble_eq_true rfl) (Nat.le_of_ble_eq_true rfl) ?_
  refine nw_putF C w hin 0 rfl rfl 5 (by decide) w_199 rfl (by first | rfl | decide) (by first | rfl | decide) (Nat.le_of_ble_eq_true rfl) d_Reck_init_36 (fun H locs w => ?_)
  have w : nw_W D A s H locs [(b, .inr (3, [.null, .null, .ref q0, .ref q1, .ref q2, .ref q3, .int 0, .int 0, .int 0, .int 0, .int 0, .int 0, .int 0, .long 0, .long 0])), (q0, .inl (g.2.1, 155, .inr (.inl (fun _ => 0)))), (q1, .inl (g.2.1, 155, .inr (.inl (fun _ => 0)))), (q2, .inl (g.1, 155, .inl (fun _ => 0))), (q3, .inl (g.1, 31, .inl (fun _ => 0)))] := w
  refine lv_aload_n hx hb d_Reck_init_39 rfl (lv_at hl 0 rfl) ?_
  refine lv_iconst (v := 0) hx hb d_Reck_init_40 (by decide) ?_
  refine nw_put C w 0 rfl rfl 6 (by decide) w_200 rfl (by first | rfl | decide) (by first | rfl | decide) (Nat.le_of_ble_eq_true rfl) d_Reck_init_41 (fun H locs w => ?_)
  have w : nw_W D A s H locs [(b, .inr (3, [.null, .null, .ref q0, .ref q1, .ref q2, .ref q3, .int 0, .int 0, .int 0, .int 0, .int 0, .int 0, .int 0, .long 0, .long 0])), (q0, .inl (g.2.1, 155, .inr (.inl (fun _ => 0)))), (q1, .inl (g.2.1, 155, .inr (.inl (fun _ => 0)))), (q2, .inl (g.1, 155, .inl (fun _ => 0))), (q3, .inl (g.1, 31, .inl (fun _ => 0)))] := w
  refine lv_aload_n hx hb d_Reck_init_44 rfl (lv_at hl 0 rfl) ?_
  refine lv_iconst (v := 0) hx hb d_Reck_init_45 (by decide) ?_
  refine nw_put C w 0 rfl rfl 7 (by decide) w_201 rfl (by first | rfl | decide) (by first | rfl | decide) (Nat.le_of_ble_eq_true rfl) d_Reck_init_46 (fun H locs w => ?_)
  have w : nw_W D A s H locs [(b, .inr (3, [.null, .null, .ref q0, .ref q1, .ref q2, .ref q3, .int 0, .int 0, .int 0, .int 0, .int 0, .int 0, .int 0, .long 0, .long 0])), (q0, .inl (g.2.1, 155, .inr (.inl (fun _ => 0)))), (q1, .inl (g.2.1, 155, .inr (.inl (fun _ => 0)))), (q2, .inl (g.1, 155, .inl (fun _ => 0))), (q3, .inl (g.1, 31, .inl (fun _ => 0)))] := w
  refine lv_aload_n hx hb d_Reck_init_49 rfl (lv_at hl 0 rfl) ?_
  refine lv_iconst (v := 0) hx hb d_Reck_init_50 (by decide) ?_
  refine nw_put C w 0 rfl rfl 8 (by decide) w_202 rfl (by first | rfl | decide) (by first | rfl | decide) (Nat.le_of_ble_eq_true rfl) d_Reck_init_51 (fun H locs w => ?_)
  have w : nw_W D A s H locs [(b, .inr (3, [.null, .null, .ref q0, .ref q1, .ref q2, .ref q3, .int 0, .int 0, .int 0, .int 0, .int 0, .int 0, .int 0, .long 0, .long 0])), (q0, .inl (g.2.1, 155, .inr (.inl (fun _ => 0)))), (q1, .inl (g.2.1, 155, .inr (.inl (fun _ => 0)))), (q2, .inl (g.1, 155, .inl (fun _ => 0))), (q3, .inl (g.1, 31, .inl (fun _ => 0)))] := w
  refine lv_aload_n hx hb d_Reck_init_54 rfl (lv_at hl 0 rfl) ?_
  refine lv_iconst (v := 0) hx hb d_Reck_init_55 (by decide) ?_
  refine nw_put C w 0 rfl rfl 9 (by decide) w_203 rfl (by first | rfl | decide) (by first | rfl | decide) (Nat.le_of_ble_eq_true rfl) d_Reck_init_56 (fun H locs w => ?_)
  have w : nw_W D A s H locs [(b, .inr (3, [.null, .null, .ref q0, .ref q1, .ref q2, .ref q3, .int 0, .int 0, .int 0, .int 0, .int 0, .int 0, .int 0, .long 0, .long 0])), (q0, .inl (g.2.1, 155, .inr (.inl (fun _ => 0)))), (q1, .inl (g.2.1, 155, .inr (.inl (fun _ => 0)))), (q2, .inl (g.1, 155, .inl (fun _ => 0))), (q3, .inl (g.1, 31, .inl (fun _ => 0)))] := w
  refine lv_aload_n hx hb d_Reck_init_59 rfl (lv_at hl 0 rfl) ?_
  refine lv_iconst (v := 0) hx hb d_Reck_init_60 (by decide) ?_
  refine nw_put C w 0 rfl rfl 10 (by decide) w_204 rfl (by first | rfl | decide) (by first | rfl | decide) (Nat.le_of_ble_eq_true rfl) d_Reck_init_61 (fun H locs w => ?_)
  have w : nw_W D A s H locs [(b, .inr (3, [.null, .null, .ref q0, .ref q1, .ref q2, .ref q3, .int 0, .int 0, .int 0, .int 0, .int 0, .int 0, .int 0, .long 0, .long 0])), (q0, .inl (g.2.1, 155, .inr (.inl (fun _ => 0)))), (q1, .inl (g.2.1, 155, .inr (.inl (fun _ => 0)))), (q2, .inl (g.1, 155, .inl (fun _ => 0))), (q3, .inl (g.1, 31, .inl (fun _ => 0)))] := w
  refine lv_aload_n hx hb d_Reck_init_64 rfl (lv_at hl 0 rfl) ?_
  refine lv_iconst (v := 0) hx hb d_Reck_init_65 (by decide) ?_
  refine nw_put C w 0 rfl rfl 11 (by decide) w_205 rfl (by first | rfl | decide) (by first | rfl | decide) (Nat.le_of_ble_eq_true rfl) d_Reck_init_66 (fun H locs w => ?_)
  have w : nw_W D A s H locs [(b, .inr (3, [.null, .null, .ref q0, .ref q1, .ref q2, .ref q3, .int 0, .int 0, .int 0, .int 0, .int 0, .int 0, .int 0, .long 0, .long 0])), (q0, .inl (g.2.1, 155, .inr (.inl (fun _ => 0)))), (q1, .inl (g.2.1, 155, .inr (.inl (fun _ => 0)))), (q2, .inl (g.1, 155, .inl (fun _ => 0))), (q3, .inl (g.1, 31, .inl (fun _ => 0)))] := w
  refine lv_aload_n hx hb d_Reck_init_69 rfl (lv_at hl 0 rfl) ?_
  refine lv_iconst (v := 0) hx hb d_Reck_init_70 (by decide) ?_
  refine nw_put C w 0 rfl rfl 12 (by decide) w_206 rfl (by first | rfl | decide) (by first | rfl | decide) (Nat.le_of_ble_eq_true rfl) d_Reck_init_71 (fun H locs w => ?_)
  have w : nw_W D A s H locs [(b, .inr (3, [.null, .null, .ref q0, .ref q1, .ref q2, .ref q3, .int 0, .int 0, .int 0, .int 0, .int 0, .int 0, .int 0, .long 0, .long 0])), (q0, .inl (g.2.1, 155, .inr (.inl (fun _ => 0)))), (q1, .inl (g.2.1, 155, .inr (.inl (fun _ => 0)))), (q2, .inl (g.1, 155, .inl (fun _ => 0))), (q3, .inl (g.1, 31, .inl (fun _ => 0)))] := w
  refine lv_aload_n hx hb d_Reck_init_74 rfl (lv_at hl 0 rfl) ?_
  refine lv_lconst (v := 0) hx hb d_Reck_init_75 (by decide) ?_
  refine nw_put C w 0 rfl rfl 13 (by decide) w_207 rfl (by first | rfl | decide) (by first | rfl | decide) (Nat.le_of_ble_eq_true rfl) d_Reck_init_76 (fun H locs w => ?_)
  have w : nw_W D A s H locs [(b, .inr (3, [.null, .null, .ref q0, .ref q1, .ref q2, .ref q3, .int 0, .int 0, .int 0, .int 0, .int 0, .int 0, .int 0, .long 0, .long 0])), (q0, .inl (g.2.1, 155, .inr (.inl (fun _ => 0)))), (q1, .inl (g.2.1, 155, .inr (.inl (fun _ => 0)))), (q2, .inl (g.1, 155, .inl (fun _ => 0))), (q3, .inl (g.1, 31, .inl (fun _ => 0)))] := w
  refine lv_aload_n hx hb d_Reck_init_79 rfl (lv_at hl 0 rfl) ?_
  refine lv_lconst (v := 0) hx hb d_Reck_init_80 (by decide) ?_
  refine nw_put C w 0 rfl rfl 14 (by decide) w_208 rfl (by first | rfl | decide) (by first | rfl | decide) (Nat.le_of_ble_eq_true rfl) d_Reck_init_81 (fun H locs w => ?_)
  have w : nw_W D A s H locs [(b, .inr (3, [.null, .null, .ref q0, .ref q1, .ref q2, .ref q3, .int 0, .int 0, .int 0, .int 0, .int 0, .int 0, .int 0, .long 0, .long 0])), (q0, .inl (g.2.1, 155, .inr (.inl (fun _ => 0)))), (q1, .inl (g.2.1, 155, .inr (.inl (fun _ => 0)))), (q2, .inl (g.1, 155, .inl (fun _ => 0))), (q3, .inl (g.1, 31, .inl (fun _ => 0)))] := w
  refine lv_aload_n hx hb d_Reck_init_84 rfl (lv_at hl 0 rfl) ?_
  refine lv_aload_n hx hb d_Reck_init_85 rfl (lv_at hl 1 rfl) ?_
  refine nw_putF C w hin 0 rfl rfl 0 (by decide) w_194 rfl (by first | rfl | decide) (by first | rfl | decide) (Nat.le_of_ble_eq_true rfl) d_Reck_init_86 (fun H locs w => ?_)
  have w : nw_W D A s H locs [(b, .inr (3, [.ref a1, .null, .ref q0, .ref q1, .ref q2, .ref q3, .int 0, .int 0, .int 0, .int 0, .int 0, .int 0, .int 0, .long 0, .long 0])), (q0, .inl (g.2.1, 155, .inr (.inl (fun _ => 0)))), (q1, .inl (g.2.1, 155, .inr (.inl (fun _ => 0)))), (q2, .inl (g.1, 155, .inl (fun _ => 0))), (q3, .inl (g.1, 31, .inl (fun _ => 0)))] := w
  refine lv_aload_n hx hb d_Reck_init_89 rfl (lv_at hl 0 rfl) ?_
  refine lv_aload_n hx hb d_Reck_init_90 rfl (lv_at hl 2 rfl) ?_
  refine nw_putF C w hin 0 rfl rfl 1 (by decide) w_195 rfl (by first | rfl | decide) (by first | rfl | decide) (Nat.le_of_ble_eq_true rfl) d_Reck_init_91 (fun H locs w => ?_)
  have w : nw_W D A s H locs [(b, .inr (3, [.ref a1, .ref a2, .ref q0, .ref q1, .ref q2, .ref q3, .int 0, .int 0, .int 0, .int 0, .int 0, .int 0, .int 0, .long 0, .long 0])), (q0, .inl (g.2.1, 155, .inr (.inl (fun _ => 0)))), (q1, .inl (g.2.1, 155, .inr (.inl (fun _ => 0)))), (q2, .inl (g.1, 155, .inl (fun _ => 0))), (q3, .inl (g.1, 31, .inl (fun _ => 0)))] := w
  refine nw_ret (rm := rm_Reck_init) (W1 := W1_Reck_init a1 a2) hA C hr hlk (fun i => ([q0, q1, q2, q3] : List Nat).getD i 0) w ?_ ?_ d_Reck_init_94 <;> exact Nat.le_of_ble_eq_true rfl
theorem pd_Reck : "WhichClub$Reckoning" ≠ "java/lang/invoke/MethodHandle" ∧ "WhichClub$Reckoning" ≠ "java/lang/invoke/VarHandle" ∧ (parseMethodDescriptor "(LWhichClub$Hole;LWhichClub$Law;)V").map (fun d => d.parameters.length) = some 2 := by decide +kernel
theorem d_Law_init_0 : decode prog_6_method_1_code 0 = .ok (.aload_n 0, 1) := by decide +kernel
theorem d_Law_init_1 : decode prog_6_method_1_code 1 = .ok (.invokespecial 3, 3) := by decide +kernel
theorem d_Law_init_4 : decode prog_6_method_1_code 4 = .ok (.aload_n 0, 1) := by decide +kernel
theorem d_Law_init_5 : decode prog_6_method_1_code 5 = .ok (.bipush 120, 2) := by decide +kernel
theorem d_Law_init_7 : decode prog_6_method_1_code 7 = .ok (.newarray .int, 2) := by decide +kernel
theorem d_Law_init_9 : decode prog_6_method_1_code 9 = .ok (.putfield 11, 3) := by decide +kernel
theorem d_Law_init_12 : decode prog_6_method_1_code 12 = .ok (.aload_n 0, 1) := by decide +kernel
theorem d_Law_init_13 : decode prog_6_method_1_code 13 = .ok (.sipush 130, 3) := by decide +kernel
theorem d_Law_init_16 : decode prog_6_method_1_code 16 = .ok (.newarray .int, 2) := by decide +kernel
theorem d_Law_init_18 : decode prog_6_method_1_code 18 = .ok (.putfield 15, 3) := by decide +kernel
theorem d_Law_init_21 : decode prog_6_method_1_code 21 = .ok (.aload_n 0, 1) := by decide +kernel
theorem d_Law_init_22 : decode prog_6_method_1_code 22 = .ok (.sipush 130, 3) := by decide +kernel
theorem d_Law_init_25 : decode prog_6_method_1_code 25 = .ok (.newarray .int, 2) := by decide +kernel
theorem d_Law_init_27 : decode prog_6_method_1_code 27 = .ok (.putfield 18, 3) := by decide +kernel
theorem d_Law_init_30 : decode prog_6_method_1_code 30 = .ok (.aload_n 0, 1) := by decide +kernel
theorem d_Law_init_31 : decode prog_6_method_1_code 31 = .ok (.sipush 130, 3) := by decide +kernel
theorem d_Law_init_34 : decode prog_6_method_1_code 34 = .ok (.newarray .int, 2) := by decide +kernel
theorem d_Law_init_36 : decode prog_6_method_1_code 36 = .ok (.putfield 21, 3) := by decide +kernel
theorem d_Law_init_39 : decode prog_6_method_1_code 39 = .ok (.aload_n 0, 1) := by decide +kernel
theorem d_Law_init_40 : decode prog_6_method_1_code 40 = .ok (.bipush 6, 2) := by decide +kernel
theorem d_Law_init_42 : decode prog_6_method_1_code 42 = .ok (.newarray .int, 2) := by decide +kernel
theorem d_Law_init_44 : decode prog_6_method_1_code 44 = .ok (.putfield 24, 3) := by decide +kernel
theorem d_Law_init_47 : decode prog_6_method_1_code 47 = .ok (.aload_n 0, 1) := by decide +kernel
theorem d_Law_init_48 : decode prog_6_method_1_code 48 = .ok (.iconst 0, 1) := by decide +kernel
theorem d_Law_init_49 : decode prog_6_method_1_code 49 = .ok (.putfield 27, 3) := by decide +kernel
theorem d_Law_init_52 : decode prog_6_method_1_code 52 = .ok (.aload_n 0, 1) := by decide +kernel
theorem d_Law_init_53 : decode prog_6_method_1_code 53 = .ok (.iconst 0, 1) := by decide +kernel
theorem d_Law_init_54 : decode prog_6_method_1_code 54 = .ok (.putfield 31, 3) := by decide +kernel
theorem d_Law_init_57 : decode prog_6_method_1_code 57 = .ok (.aload_n 0, 1) := by decide +kernel
theorem d_Law_init_58 : decode prog_6_method_1_code 58 = .ok (.iconst 0, 1) := by decide +kernel
theorem d_Law_init_59 : decode prog_6_method_1_code 59 = .ok (.putfield 34, 3) := by decide +kernel
theorem d_Law_init_62 : decode prog_6_method_1_code 62 = .ok (.aload_n 0, 1) := by decide +kernel
theorem d_Law_init_63 : decode prog_6_method_1_code 63 = .ok (.iconst 0, 1) := by decide +kernel
theorem d_Law_init_64 : decode prog_6_method_1_code 64 = .ok (.putfield 37, 3) := by decide +kernel
theorem d_Law_init_67 : decode prog_6_method_1_code 67 = .ok (.return_, 1) := by decide +kernel
def W1_Law_init (g : am_G) (b : Nat) (qs : Nat → Nat) : va_W := [(b, .inr (2, [.ref (qs 0), .ref (qs 1), .ref (qs 2), .ref (qs 3), .ref (qs 4), .int 0, .int 0, .int 0, .int 0])), ((qs 0), .inl (g.1, 120, .inl (fun _ => 0))), ((qs 1), .inl (g.1, 130, .inl (fun _ => 0))), ((qs 2), .inl (g.1, 130, .inl (fun _ => 0))), ((qs 3), .inl (g.1, 130, .inl (fun _ => 0))), ((qs 4), .inl (g.1, 6, .inl (fun _ => 0)))]
abbrev rm_Law_init : Room := { frames := 1, cells := 5, slots := 516, locals := 40 }
set_option maxRecDepth 100000 in
set_option maxHeartbeats 4000000 in
theorem c_Law_init : nw_M (fun _ => True) ⟨"WhichClub$Law", "<init>", "()V"⟩ prog_6_method_1_code 1 rm_Law_init [] (.inr (2, [.null, .null, .null, .null, .null, .int 0, .int 0, .int 0, .int 0])) (W1_Law_init) := by
  refine nw_enter (by decide) rfl (fun _ => (Nat.le_of_ble_eq_true rfl)) (fun p l e s m args below meth c D g b ls H locs C hin hr hlk w hl hX => ?_)
  have hx := C.1
  have hb := C.2.1
  generalize hA : va_A [(b, (.inr (2, [.null, .null, .null, .null, .null, .int 0, .int 0, .int 0, .int 0]) : va_E))] s.heap.size = A at C w
  have hl : lv_has ls 1 [(0, .ref b)] := hl
  refine lv_aload_n hx hb d_Law_init_0 rfl (lv_at hl 0 rfl) ?_
  refine nw_objInit C wn_159 wn_108 wn_109 hl.1 d_Law_init_1 (Nat.le_of_ble_eq_true rfl) (Nat.le_of_ble_eq_true rfl) ?_
  refine lv_aload_n hx hb d_Law_init_4 rfl (lv_at hl 0 rfl) ?_
  refine lv_bipush (v := 120) hx hb d_Law_init_5 (by decide) ?_
  refine nw_newI (N := 120) C w (by decide) (by decide) (by decide) (Nat.le_of_ble_eq_true rfl) (Nat.le_of_ble_eq_true rfl) d_Law_init_7 (fun q0 H w => ?_)
  have w : nw_W D A s H locs [(b, .inr (2, [.null, .null, .null, .null, .null, .int 0, .int 0, .int 0, .int 0])), (q0, .inl (g.1, 120, .inl (fun _ => 0)))] := w
  refine W.widen (k := 1) (n := 120) (Nat.le_of_ble_eq_true rfl) (Nat.le_of_ble_eq_true rfl) ?_
  refine nw_putF C w hin 0 rfl rfl 0 (by decide) w_160 rfl (by first | rfl | decide) (by first | rfl | decide) (Nat.le_of_ble_eq_true rfl) d_Law_init_9 (fun H locs w => ?_)
  have w : nw_W D A s H locs [(b, .inr (2, [.ref q0, .null, .null, .null, .null, .int 0, .int 0, .int 0, .int 0])), (q0, .inl (g.1, 120, .inl (fun _ => 0)))] := w
  refine lv_aload_n hx hb d_Law_init_12 rfl (lv_at hl 0 rfl) ?_
  refine lv_sipush (v := 130) hx hb d_Law_init_13 (by decide) ?_
  refine nw_newI (N := 130) C w (by decide) (by decide) (by decide) (Nat.le_of_ble_eq_true rfl) (Nat.le_of_ble_eq_true rfl) d_Law_init_16 (fun q1 H w => ?_)
  have w : nw_W D A s H locs [(b, .inr (2, [.ref q0, .null, .null, .null, .null, .int 0, .int 0, .int 0, .int 0])), (q0, .inl (g.1, 120, .inl (fun _ => 0))), (q1, .inl (g.1, 130, .inl (fun _ => 0)))] := w
  refine W.widen (k := 2) (n := 250) (Nat.le_of_ble_eq_true rfl) (Nat.le_of_ble_eq_true rfl) ?_
  refine nw_putF C w hin 0 rfl rfl 1 (by decide) w_161 rfl (by first | rfl | decide) (by first | rfl | decide) (Nat.le_of_ble_eq_true rfl) d_Law_init_18 (fun H locs w => ?_)
  have w : nw_W D A s H locs [(b, .inr (2, [.ref q0, .ref q1, .null, .null, .null, .int 0, .int 0, .int 0, .int 0])), (q0, .inl (g.1, 120, .inl (fun _ => 0))), (q1, .inl (g.1, 130, .inl (fun _ => 0)))] := w
  refine lv_aload_n hx hb d_Law_init_21 rfl (lv_at hl 0 rfl) ?_
  refine lv_sipush (v := 130) hx hb d_Law_init_22 (by decide) ?_
  refine nw_newI (N := 130) C w (by decide) (by decide) (by decide) (Nat.le_of_ble_eq_true rfl) (Nat.le_of_ble_eq_true rfl) d_Law_init_25 (fun q2 H w => ?_)
  have w : nw_W D A s H locs [(b, .inr (2, [.ref q0, .ref q1, .null, .null, .null, .int 0, .int 0, .int 0, .int 0])), (q0, .inl (g.1, 120, .inl (fun _ => 0))), (q1, .inl (g.1, 130, .inl (fun _ => 0))), (q2, .inl (g.1, 130, .inl (fun _ => 0)))] := w
  refine W.widen (k := 3) (n := 380) (Nat.le_of_ble_eq_true rfl) (Nat.le_of_ble_eq_true rfl) ?_
  refine nw_putF C w hin 0 rfl rfl 2 (by decide) w_162 rfl (by first | rfl | decide) (by first | rfl | decide) (Nat.le_of_ble_eq_true rfl) d_Law_init_27 (fun H locs w => ?_)
  have w : nw_W D A s H locs [(b, .inr (2, [.ref q0, .ref q1, .ref q2, .null, .null, .int 0, .int 0, .int 0, .int 0])), (q0, .inl (g.1, 120, .inl (fun _ => 0))), (q1, .inl (g.1, 130, .inl (fun _ => 0))), (q2, .inl (g.1, 130, .inl (fun _ => 0)))] := w
  refine lv_aload_n hx hb d_Law_init_30 rfl (lv_at hl 0 rfl) ?_
  refine lv_sipush (v := 130) hx hb d_Law_init_31 (by decide) ?_
  refine nw_newI (N := 130) C w (by decide) (by decide) (by decide) (Nat.le_of_ble_eq_true rfl) (Nat.le_of_ble_eq_true rfl) d_Law_init_34 (fun q3 H w => ?_)
  have w : nw_W D A s H locs [(b, .inr (2, [.ref q0, .ref q1, .ref q2, .null, .null, .int 0, .int 0, .int 0, .int 0])), (q0, .inl (g.1, 120, .inl (fun _ => 0))), (q1, .inl (g.1, 130, .inl (fun _ => 0))), (q2, .inl (g.1, 130, .inl (fun _ => 0))), (q3, .inl (g.1, 130, .inl (fun _ => 0)))] := w
  refine W.widen (k := 4) (n := 510) (Nat.le_of_ble_eq_true rfl) (Nat.le_of_ble_eq_true rfl) ?_
  refine nw_putF C w hin 0 rfl rfl 3 (by decide) w_163 rfl (by first | rfl | decide) (by first | rfl | decide) (Nat.le_of_ble_eq_true rfl) d_Law_init_36 (fun H locs w => ?_)
  have w : nw_W D A s H locs [(b, .inr (2, [.ref q0, .ref q1, .ref q2, .ref q3, .null, .int 0, .int 0, .int 0, .int 0])), (q0, .inl (g.1, 120, .inl (fun _ => 0))), (q1, .inl (g.1, 130, .inl (fun _ => 0))), (q2, .inl (g.1, 130, .inl (fun _ => 0))), (q3, .inl (g.1, 130, .inl (fun _ => 0)))] := w
  refine lv_aload_n hx hb d_Law_init_39 rfl (lv_at hl 0 rfl) ?_
  refine lv_bipush (v := 6) hx hb d_Law_init_40 (by decide) ?_
  refine nw_newI (N := 6) C w (by decide) (by decide) (by decide) (Nat.le_of_ble_eq_true rfl) (Nat.le_of_ble_eq_true rfl) d_Law_init_42 (fun q4 H w => ?_)
  have w : nw_W D A s H locs [(b, .inr (2, [.ref q0, .ref q1, .ref q2, .ref q3, .null, .int 0, .int 0, .int 0, .int 0])), (q0, .inl (g.1, 120, .inl (fun _ => 0))), (q1, .inl (g.1, 130, .inl (fun _ => 0))), (q2, .inl (g.1, 130, .inl (fun _ => 0))), (q3, .inl (g.1, 130, .inl (fun _ => 0))), (q4, .inl (g.1, 6, .inl (fun _ => 0)))] := w
  refine W.widen (k := 5) (n := 516) (Nat.le_of_ble_eq_true rfl) (Nat.le_of_ble_eq_true rfl) ?_
  refine nw_putF C w hin 0 rfl rfl 4 (by decide) w_164 rfl (by first | rfl | decide) (by first | rfl | decide) (Nat.le_of_ble_eq_true rfl) d_Law_init_44 (fun H locs w => ?_)
  have w : nw_W D A s H locs [(b, .inr (2, [.ref q0, .ref q1, .ref q2, .ref q3, .ref q4, .int 0, .int 0, .int 0, .int 0])), (q0, .inl (g.1, 120, .inl (fun _ => 0))), (q1, .inl (g.1, 130, .inl (fun _ => 0))), (q2, .inl (g.1, 130, .inl (fun _ => 0))), (q3, .inl (g.1, 130, .inl (fun _ => 0))), (q4, .inl (g.1, 6, .inl (fun _ => 0)))] := w
  refine lv_aload_n hx hb d_Law_init_47 rfl (lv_at hl 0 rfl) ?_
  refine lv_iconst (v := 0) hx hb d_Law_init_48 (by decide) ?_
  refine nw_put C w 0 rfl rfl 5 (by decide) w_165 rfl (by first | rfl | decide) (by first | rfl | decide) (Nat.le_of_ble_eq_true rfl) d_Law_init_49 (fun H locs w => ?_)
  have w : nw_W D A s H locs [(b, .inr (2, [.ref q0, .ref q1, .ref q2, .ref q3, .ref q4, .int 0, .int 0, .int 0, .int 0])), (q0, .inl (g.1, 120, .inl (fun _ => 0))), (q1, .inl (g.1, 130, .inl (fun _ => 0))), (q2, .inl (g.1, 130, .inl (fun _ => 0))), (q3, .inl (g.1, 130, .inl (fun _ => 0))), (q4, .inl (g.1, 6, .inl (fun _ => 0)))] := w
  refine lv_aload_n hx hb d_Law_init_52 rfl (lv_at hl 0 rfl) ?_
  refine lv_iconst (v := 0) hx hb d_Law_init_53 (by decide) ?_
  refine nw_put C w 0 rfl rfl 6 (by decide) w_166 rfl (by first | rfl | decide) (by first | rfl | decide) (Nat.le_of_ble_eq_true rfl) d_Law_init_54 (fun H locs w => ?_)
  have w : nw_W D A s H locs [(b, .inr (2, [.ref q0, .ref q1, .ref q2, .ref q3, .ref q4, .int 0, .int 0, .int 0, .int 0])), (q0, .inl (g.1, 120, .inl (fun _ => 0))), (q1, .inl (g.1, 130, .inl (fun _ => 0))), (q2, .inl (g.1, 130, .inl (fun _ => 0))), (q3, .inl (g.1, 130, .inl (fun _ => 0))), (q4, .inl (g.1, 6, .inl (fun _ => 0)))] := w
  refine lv_aload_n hx hb d_Law_init_57 rfl (lv_at hl 0 rfl) ?_
  refine lv_iconst (v := 0) hx hb d_Law_init_58 (by decide) ?_
  refine nw_put C w 0 rfl rfl 7 (by decide) w_167 rfl (by first | rfl | decide) (by first | rfl | decide) (Nat.le_of_ble_eq_true rfl) d_Law_init_59 (fun H locs w => ?_)
  have w : nw_W D A s H locs [(b, .inr (2, [.ref q0, .ref q1, .ref q2, .ref q3, .ref q4, .int 0, .int 0, .int 0, .int 0])), (q0, .inl (g.1, 120, .inl (fun _ => 0))), (q1, .inl (g.1, 130, .inl (fun _ => 0))), (q2, .inl (g.1, 130, .inl (fun _ => 0))), (q3, .inl (g.1, 130, .inl (fun _ => 0))), (q4, .inl (g.1, 6, .inl (fun _ => 0)))] := w
  refine lv_aload_n hx hb d_Law_init_62 rfl (lv_at hl 0 rfl) ?_
  refine lv_iconst (v := 0) hx hb d_Law_init_63 (by decide) ?_
  refine nw_put C w 0 rfl rfl 8 (by decide) w_168 rfl (by first | rfl | decide) (by first | rfl | decide) (Nat.le_of_ble_eq_true rfl) d_Law_init_64 (fun H locs w => ?_)
  have w : nw_W D A s H locs [(b, .inr (2, [.ref q0, .ref q1, .ref q2, .ref q3, .ref q4, .int 0, .int 0, .int 0, .int 0])), (q0, .inl (g.1, 120, .inl (fun _ => 0))), (q1, .inl (g.1, 130, .inl (fun _ => 0))), (q2, .inl (g.1, 130, .inl (fun _ => 0))), (q3, .inl (g.1, 130, .inl (fun _ => 0))), (q4, .inl (g.1, 6, .inl (fun _ => 0)))] := w
  refine nw_ret (rm := rm_Law_init) (W1 := W1_Law_init) hA C hr hlk (fun i => ([q0, q1, q2, q3, q4] : List Nat).getD i 0) w ?_ ?_ d_Law_init_67 <;> exact Nat.le_of_ble_eq_true rfl
theorem pd_Law : "WhichClub$Law" ≠ "java/lang/invoke/MethodHandle" ∧ "WhichClub$Law" ≠ "java/lang/invoke/VarHandle" ∧ (parseMethodDescriptor "()V").map (fun d => d.parameters.length) = some 0 := by decide +kernel
