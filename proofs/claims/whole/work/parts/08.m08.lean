theorem d_Shelf_write_0 : decode prog_9_method_14_code 0 = .ok (.iload_n 1, 1) := by decide +kernel
theorem d_Shelf_write_1 : decode prog_9_method_14_code 1 = .ok (.ifCond .lt 28, 3) := by decide +kernel
theorem d_Shelf_write_4 : decode prog_9_method_14_code 4 = .ok (.iload_n 1, 1) := by decide +kernel
theorem d_Shelf_write_5 : decode prog_9_method_14_code 5 = .ok (.aload_n 0, 1) := by decide +kernel
theorem d_Shelf_write_6 : decode prog_9_method_14_code 6 = .ok (.getfield 20, 3) := by decide +kernel
theorem d_Shelf_write_9 : decode prog_9_method_14_code 9 = .ok (.if_icmp .ge 20, 3) := by decide +kernel
theorem d_Shelf_write_12 : decode prog_9_method_14_code 12 = .ok (.iload_n 1, 1) := by decide +kernel
theorem d_Shelf_write_13 : decode prog_9_method_14_code 13 = .ok (.bipush 60, 2) := by decide +kernel
theorem d_Shelf_write_15 : decode prog_9_method_14_code 15 = .ok (.if_icmp .ge 14, 3) := by decide +kernel
theorem d_Shelf_write_18 : decode prog_9_method_14_code 18 = .ok (.aload_n 0, 1) := by decide +kernel
theorem d_Shelf_write_19 : decode prog_9_method_14_code 19 = .ok (.getfield 9, 3) := by decide +kernel
theorem d_Shelf_write_22 : decode prog_9_method_14_code 22 = .ok (.iload_n 1, 1) := by decide +kernel
theorem d_Shelf_write_23 : decode prog_9_method_14_code 23 = .ok (.aload_n 0, 1) := by decide +kernel
theorem d_Shelf_write_24 : decode prog_9_method_14_code 24 = .ok (.lload_n 2, 1) := by decide +kernel
theorem d_Shelf_write_25 : decode prog_9_method_14_code 25 = .ok (.invokevirtual 41, 3) := by decide +kernel
theorem d_Shelf_write_28 : decode prog_9_method_14_code 28 = .ok (.lastore, 1) := by decide +kernel
theorem d_Shelf_write_29 : decode prog_9_method_14_code 29 = .ok (.return_, 1) := by decide +kernel
theorem b_Shelf_write_0 {d : Nat} {a0 : Nat} {x1 : Int32} {x2 : Int64} {h : am_H} {Q : am_Q} (sa0 : am_shf a0) (kt : x1 < 0 → am_W (X_Shelf_write d) 29 [some (.ref a0), some (.int x1), some (.long x2), none] [] h Q) (kf : ¬ x1 < 0 → am_W (X_Shelf_write d) 4 [some (.ref a0), some (.int x1), some (.long x2), none] [] h Q) : am_W (X_Shelf_write d) 0 [some (.ref a0), some (.int x1), some (.long x2), none] [] h Q :=
  am_iload_n d_Shelf_write_0 rfl (i := 1) rfl <|
    am_if_lt (tgt := 29) d_Shelf_write_1 (by decide) kt kf
theorem b_Shelf_write_4 {d : Nat} {a0 : Nat} {x1 : Int32} {x2 : Int64} {h : am_H} {Q : am_Q} (sa0 : am_shf a0) (kt : (h.1 a0 3) ≤ x1 → am_W (X_Shelf_write d) 29 [some (.ref a0), some (.int x1), some (.long x2), none] [] h Q) (kf : ¬ (h.1 a0 3) ≤ x1 → am_W (X_Shelf_write d) 12 [some (.ref a0), some (.int x1), some (.long x2), none] [] h Q) : am_W (X_Shelf_write d) 4 [some (.ref a0), some (.int x1), some (.long x2), none] [] h Q :=
  am_iload_n d_Shelf_write_4 rfl (i := 1) rfl <|
    am_aload_n d_Shelf_write_5 rfl (i := 0) rfl <|
    am_getI (ci := 9) (i := 3) rfl sa0.1 rfl (Nat.le_of_ble_eq_true rfl) w_352 d_Shelf_write_6 <|
    am_icmp_ge (tgt := 29) d_Shelf_write_9 (by decide) kt kf
theorem b_Shelf_write_12 {d : Nat} {a0 : Nat} {x1 : Int32} {x2 : Int64} {h : am_H} {Q : am_Q} (sa0 : am_shf a0) (kt : 60 ≤ x1 → am_W (X_Shelf_write d) 29 [some (.ref a0), some (.int x1), some (.long x2), none] [] h Q) (kf : ¬ 60 ≤ x1 → am_W (X_Shelf_write d) 18 [some (.ref a0), some (.int x1), some (.long x2), none] [] h Q) : am_W (X_Shelf_write d) 12 [some (.ref a0), some (.int x1), some (.long x2), none] [] h Q :=
  am_iload_n d_Shelf_write_12 rfl (i := 1) rfl <|
    am_bipush (v := 60) d_Shelf_write_13 (by decide) <|
    am_icmp_ge (tgt := 29) d_Shelf_write_15 (by decide) kt kf
theorem b_Shelf_write_18 {d : Nat} {a0 : Nat} {x1 : Int32} {x2 : Int64} {h : am_H} {Q : am_Q} (sa0 : am_shf a0) (k : m_Shelf_lowestBits d [.ref a0, .long x2] h (fun r hh => am_W (X_Shelf_write (d + 1)) 28 [some (.ref a0), some (.int x1), some (.long x2), none] (r.toList ++ [.int x1, .ref (a0 + 1)]) hh Q)) : am_W (X_Shelf_write (d + 1)) 18 [some (.ref a0), some (.int x1), some (.long x2), none] [] h Q :=
  am_aload_n d_Shelf_write_18 rfl (i := 0) rfl <|
    am_getR (ci := 9) (i := 0) rfl sa0.1 rfl (Nat.le_of_ble_eq_true rfl) w_349 d_Shelf_write_19 <|
    am_iload_n d_Shelf_write_22 rfl (i := 1) rfl <|
    am_aload_n d_Shelf_write_23 rfl (i := 0) rfl <|
    am_lload_n d_Shelf_write_24 rfl (i := 2) rfl <|
    am_callV (vs := [.long x2]) (st := [.int x1, .ref (a0 + 1)]) (k := a0) (ci := 9) rfl d_Shelf_write_25 rfl sa0.1 w_1252 w_1254 w_33 w_93 w_1255 p_Shelf_lowestBits (Nat.le_of_ble_eq_true rfl) (Nat.le_of_ble_eq_true rfl) rfl k
theorem b_Shelf_write_28 {d : Nat} {a0 : Nat} {x1 : Int32} {x2 : Int64} {y2 : Int64} {y1 : Int32} {b0 : Nat} {nb0 : Nat} {h : am_H} {Q : am_Q} (sa0 : am_shf a0) (sb0 : shX[b0]? = some (.inr (1, nb0, []))) (q0 : vp_in y1 nb0) (q : Q none (am_pL h b0 y1.toNatClampNeg y2)) : am_W (X_Shelf_write d) 28 [some (.ref a0), some (.int x1), some (.long x2), none] [.long y2, .int y1, .ref b0] h Q :=
  am_last sb0 q0 d_Shelf_write_28 <|
    am_vret rfl d_Shelf_write_29 q
theorem b_Shelf_write_29 {d : Nat} {a0 : Nat} {x1 : Int32} {x2 : Int64} {h : am_H} {Q : am_Q} (sa0 : am_shf a0) (q : Q none h) : am_W (X_Shelf_write d) 29 [some (.ref a0), some (.int x1), some (.long x2), none] [] h Q :=
  am_vret rfl d_Shelf_write_29 q
theorem t_Shelf_write_29 {d : Nat} {a0 : Nat} {x1 : Int32} {x2 : Int64} {h : am_H} {Q : am_Q} {res : am_H} (sa0 : am_shf a0) (e : f_Shelf_write_29 h = some res) (q : Q none res) : am_W (X_Shelf_write (d + 1)) 29 [some (.ref a0), some (.int x1), some (.long x2), none] [] h Q :=
  b_Shelf_write_29 (d := (d + 1)) (sa0 := sa0) (q := (am_rVpi e q))
theorem t_Shelf_write_28 {d : Nat} {a0 : Nat} {x1 : Int32} {x2 : Int64} {y2 : Int64} {y1 : Int32} {b0 : Nat} {nb0 : Nat} {h : am_H} {Q : am_Q} {res : am_H} (sa0 : am_shf a0) (sb0 : shX[b0]? = some (.inr (1, nb0, []))) (e : f_Shelf_write_28 h y2 y1 b0 nb0 = some res) (q : Q none res) : am_W (X_Shelf_write (d + 1)) 28 [some (.ref a0), some (.int x1), some (.long x2), none] [.long y2, .int y1, .ref b0] h Q :=
  b_Shelf_write_28 (d := (d + 1)) (q0 := (am_okv (am_gd e))) (sa0 := sa0) (sb0 := sb0) (q := (am_rVpi (am_ga e) q))
theorem t_Shelf_write_18 {d : Nat} {a0 : Nat} {x1 : Int32} {x2 : Int64} {h : am_H} {Q : am_Q} {res : am_H} (sa0 : am_shf a0) (e : f_Shelf_write_18 h a0 x1 x2 = some res) (q : Q none res) : am_W (X_Shelf_write (d + 1)) 18 [some (.ref a0), some (.int x1), some (.long x2), none] [] h Q :=
  b_Shelf_write_18 (d := d) (sa0 := sa0) (k := c_Shelf_lowestBits (d := d) sa0 rfl (t_Shelf_write_28 sa0 sa0.2 e q))
theorem t_Shelf_write_12 {d : Nat} {a0 : Nat} {x1 : Int32} {x2 : Int64} {h : am_H} {Q : am_Q} {res : am_H} (sa0 : am_shf a0) (e : f_Shelf_write_12 h a0 x1 x2 = some res) (q : Q none res) : am_W (X_Shelf_write (d + 1)) 12 [some (.ref a0), some (.int x1), some (.long x2), none] [] h Q :=
  b_Shelf_write_12 (d := (d + 1)) (sa0 := sa0) (kt := fun c => (t_Shelf_write_29 sa0 (am_ift e c) q)) (kf := fun c => (t_Shelf_write_18 sa0 (am_ife e c) q))
theorem t_Shelf_write_4 {d : Nat} {a0 : Nat} {x1 : Int32} {x2 : Int64} {h : am_H} {Q : am_Q} {res : am_H} (sa0 : am_shf a0) (e : f_Shelf_write_4 h a0 x1 x2 = some res) (q : Q none res) : am_W (X_Shelf_write (d + 1)) 4 [some (.ref a0), some (.int x1), some (.long x2), none] [] h Q :=
  b_Shelf_write_4 (d := (d + 1)) (sa0 := sa0) (kt := fun c => (t_Shelf_write_29 sa0 (am_ift e c) q)) (kf := fun c => (t_Shelf_write_12 sa0 (am_ife e c) q))
theorem t_Shelf_write_0 {d : Nat} {a0 : Nat} {x1 : Int32} {x2 : Int64} {h : am_H} {Q : am_Q} {res : am_H} (sa0 : am_shf a0) (e : f_Shelf_write h a0 x1 x2 = some res) (q : Q none res) : am_W (X_Shelf_write (d + 1)) 0 [some (.ref a0), some (.int x1), some (.long x2), none] [] h Q :=
  b_Shelf_write_0 (d := (d + 1)) (sa0 := sa0) (kt := fun c => (t_Shelf_write_29 sa0 (am_ift e c) q)) (kf := fun c => (t_Shelf_write_4 sa0 (am_ife e c) q))
theorem c_Shelf_write {d : Nat} {a0 : Nat} {x1 : Int32} {x2 : Int64} {h : am_H} {Q : am_Q} {res : am_H} (sa0 : am_shf a0) (e : f_Shelf_write h a0 x1 x2 = some res) (q : Q none res) : m_Shelf_write (d + 1) [.ref a0, .int x1, .long x2] h Q :=
  e_Shelf_write (t_Shelf_write_0 sa0 e q)
theorem d_Club_put_0 : decode prog_1_method_37_code 0 = .ok (.aload_n 0, 1) := by decide +kernel
theorem d_Club_put_1 : decode prog_1_method_37_code 1 = .ok (.iload_n 1, 1) := by decide +kernel
theorem d_Club_put_2 : decode prog_1_method_37_code 2 = .ok (.iload_n 2, 1) := by decide +kernel
theorem d_Club_put_3 : decode prog_1_method_37_code 3 = .ok (.invokevirtual 346, 3) := by decide +kernel
theorem d_Club_put_6 : decode prog_1_method_37_code 6 = .ok (.istore 5, 2) := by decide +kernel
theorem d_Club_put_8 : decode prog_1_method_37_code 8 = .ok (.iload 5, 2) := by decide +kernel
theorem d_Club_put_10 : decode prog_1_method_37_code 10 = .ok (.ifCond .eq 6, 3) := by decide +kernel
theorem d_Club_put_13 : decode prog_1_method_37_code 13 = .ok (.iload 5, 2) := by decide +kernel
theorem d_Club_put_15 : decode prog_1_method_37_code 15 = .ok (.ireturn, 1) := by decide +kernel
theorem d_Club_put_16 : decode prog_1_method_37_code 16 = .ok (.aload_n 0, 1) := by decide +kernel
theorem d_Club_put_17 : decode prog_1_method_37_code 17 = .ok (.getfield 75, 3) := by decide +kernel
theorem d_Club_put_20 : decode prog_1_method_37_code 20 = .ok (.iload_n 1, 1) := by decide +kernel
theorem d_Club_put_21 : decode prog_1_method_37_code 21 = .ok (.aaload, 1) := by decide +kernel
theorem d_Club_put_22 : decode prog_1_method_37_code 22 = .ok (.iload_n 2, 1) := by decide +kernel
theorem d_Club_put_23 : decode prog_1_method_37_code 23 = .ok (.lload_n 3, 1) := by decide +kernel
theorem d_Club_put_24 : decode prog_1_method_37_code 24 = .ok (.invokevirtual 349, 3) := by decide +kernel
theorem d_Club_put_27 : decode prog_1_method_37_code 27 = .ok (.iconst 1, 1) := by decide +kernel
theorem d_Club_put_28 : decode prog_1_method_37_code 28 = .ok (.ireturn, 1) := by decide +kernel
theorem b_Club_put_0 {d : Nat} {x1 : Int32} {x2 : Int32} {x3 : Int64} {h : am_H} {Q : am_Q} (k : m_Club_refuseElement d [.ref 0, .int x1, .int x2] h (fun r hh => am_W (X_Club_put (d + 1)) 6 [some (.ref 0), some (.int x1), some (.int x2), some (.long x3), none, none] (r.toList ++ []) hh Q)) : am_W (X_Club_put (d + 1)) 0 [some (.ref 0), some (.int x1), some (.int x2), some (.long x3), none, none] [] h Q :=
  am_aload_n d_Club_put_0 rfl (i := 0) rfl <|
    am_iload_n d_Club_put_1 rfl (i := 1) rfl <|
    am_iload_n d_Club_put_2 rfl (i := 2) rfl <|
    am_callV (vs := [.int x1, .int x2]) (st := []) (k := 0) (ci := 0) rfl d_Club_put_3 rfl rfl w_1239 w_1241 w_32 w_83 w_1242 p_Club_refuseElement (Nat.le_of_ble_eq_true rfl) (Nat.le_of_ble_eq_true rfl) rfl k
theorem b_Club_put_6 {d : Nat} {x1 : Int32} {x2 : Int32} {x3 : Int64} {y0 : Int32} {h : am_H} {Q : am_Q} (kt : y0 = 0 → am_W (X_Club_put d) 16 [some (.ref 0), some (.int x1), some (.int x2), some (.long x3), none, some (.int y0)] [] h Q) (kf : ¬ y0 = 0 → am_W (X_Club_put d) 13 [some (.ref 0), some (.int x1), some (.int x2), some (.long x3), none, some (.int y0)] [] h Q) : am_W (X_Club_put d) 6 [some (.ref 0), some (.int x1), some (.int x2), some (.long x3), none, none] [.int y0] h Q :=
  am_istore (ls' := [some (.ref 0), some (.int x1), some (.int x2), some (.long x3), none, some (.int y0)]) d_Club_put_6 (Nat.le_of_ble_eq_true rfl) rfl <|
    am_iload d_Club_put_8 rfl <|
    am_if_eq (tgt := 16) d_Club_put_10 (by decide) kt kf
theorem b_Club_put_13 {d : Nat} {x1 : Int32} {x2 : Int32} {x3 : Int64} {x5 : Int32} {h : am_H} {Q : am_Q} (q : Q (some (.int x5)) h) : am_W (X_Club_put d) 13 [some (.ref 0), some (.int x1), some (.int x2), some (.long x3), none, some (.int x5)] [] h Q :=
  am_iload d_Club_put_13 rfl <|
    am_iret rfl d_Club_put_15 q
theorem b_Club_put_16 {d : Nat} {x1 : Int32} {x2 : Int32} {x3 : Int64} {x5 : Int32} {h : am_H} {Q : am_Q} (q0 : vp_in x1 6) (k : m_Shelf_write d [.ref (am_shp x1), .int x2, .long x3] h (fun r hh => am_W (X_Club_put (d + 1)) 27 [some (.ref 0), some (.int x1), some (.int x2), some (.long x3), none, some (.int x5)] (r.toList ++ []) hh Q)) : am_W (X_Club_put (d + 1)) 16 [some (.ref 0), some (.int x1), some (.int x2), some (.long x3), none, some (.int x5)] [] h Q :=
  am_aload_n d_Club_put_16 rfl (i := 0) rfl <|
    am_getR (ci := 0) (i := 8) rfl rfl rfl (Nat.le_of_ble_eq_true rfl) w_370 d_Club_put_17 <|
    am_iload_n d_Club_put_20 rfl (i := 1) rfl <|
    am_aald (q := am_shp x1) rfl q0 (am_shq q0) d_Club_put_21 <|
    am_iload_n d_Club_put_22 rfl (i := 2) rfl <|
    am_lload_n d_Club_put_23 rfl (i := 3) rfl <|
    am_callV (vs := [.int x2, .long x3]) (st := []) (k := (am_shp x1)) (ci := 9) rfl d_Club_put_24 rfl (am_shl q0).1 w_1248 w_1249 w_1250 w_93 w_1251 p_Shelf_write (Nat.le_of_ble_eq_true rfl) (Nat.le_of_ble_eq_true rfl) rfl k
theorem b_Club_put_27 {d : Nat} {x1 : Int32} {x2 : Int32} {x3 : Int64} {x5 : Int32} {h : am_H} {Q : am_Q} (q : Q (some (.int 1)) h) : am_W (X_Club_put d) 27 [some (.ref 0), some (.int x1), some (.int x2), some (.long x3), none, some (.int x5)] [] h Q :=
  am_iconst (v := 1) d_Club_put_27 (by decide) <|
    am_iret rfl d_Club_put_28 q
theorem t_Club_put_27 {d : Nat} {x1 : Int32} {x2 : Int32} {x3 : Int64} {x5 : Int32} {h : am_H} {Q : am_Q} {res : Int32 × am_H} (e : f_Club_put_27 h = some res) (q : Q (some (.int res.1)) res.2) : am_W (X_Club_put (d + 2)) 27 [some (.ref 0), some (.int x1), some (.int x2), some (.long x3), none, some (.int x5)] [] h Q :=
  b_Club_put_27 (d := (d + 2)) (q := (am_rIpi (v := 1) e q))
theorem t_Club_put_16 {d : Nat} {x1 : Int32} {x2 : Int32} {x3 : Int64} {x5 : Int32} {h : am_H} {Q : am_Q} {res : Int32 × am_H} (e : f_Club_put_16 h x1 x2 x3 = some res) (q : Q (some (.int res.1)) res.2) : am_W (X_Club_put (d + 2)) 16 [some (.ref 0), some (.int x1), some (.int x2), some (.long x3), none, some (.int x5)] [] h Q :=
  (am_bd (am_ga e)).elim fun p hp => b_Club_put_16 (d := (d + 1)) (q0 := (am_okv (am_gd e))) (k := c_Shelf_write (d := d) (am_shl (am_okv (am_gd e))) hp.1 (t_Club_put_27 hp.2 q))
theorem t_Club_put_13 {d : Nat} {x1 : Int32} {x2 : Int32} {x3 : Int64} {x5 : Int32} {h : am_H} {Q : am_Q} {res : Int32 × am_H} (e : f_Club_put_13 h x5 = some res) (q : Q (some (.int res.1)) res.2) : am_W (X_Club_put (d + 2)) 13 [some (.ref 0), some (.int x1), some (.int x2), some (.long x3), none, some (.int x5)] [] h Q :=
  b_Club_put_13 (d := (d + 2)) (q := (am_rIpi (v := x5) e q))
theorem t_Club_put_6 {d : Nat} {x1 : Int32} {x2 : Int32} {x3 : Int64} {y0 : Int32} {h : am_H} {Q : am_Q} {res : Int32 × am_H} (e : f_Club_put_6 h x1 x2 x3 y0 = some res) (q : Q (some (.int res.1)) res.2) : am_W (X_Club_put (d + 2)) 6 [some (.ref 0), some (.int x1), some (.int x2), some (.long x3), none, none] [.int y0] h Q :=
  b_Club_put_6 (d := (d + 2)) (kt := fun c => (t_Club_put_16 (am_ift e c) q)) (kf := fun c => (t_Club_put_13 (am_ife e c) q))
theorem t_Club_put_0 {d : Nat} {x1 : Int32} {x2 : Int32} {x3 : Int64} {h : am_H} {Q : am_Q} {res : Int32 × am_H} (e : f_Club_put h x1 x2 x3 = some res) (q : Q (some (.int res.1)) res.2) : am_W (X_Club_put (d + 2)) 0 [some (.ref 0), some (.int x1), some (.int x2), some (.long x3), none, none] [] h Q :=
  (am_bd e).elim fun p hp => b_Club_put_0 (d := (d + 1)) (k := c_Club_refuseElement (d := d) hp.1 (t_Club_put_6 hp.2 q))
theorem c_Club_put {d : Nat} {x1 : Int32} {x2 : Int32} {x3 : Int64} {h : am_H} {Q : am_Q} {res : Int32 × am_H} (e : f_Club_put h x1 x2 x3 = some res) (q : Q (some (.int res.1)) res.2) : m_Club_put (d + 2) [.ref 0, .int x1, .int x2, .long x3] h Q :=
  e_Club_put (t_Club_put_0 e q)
theorem d_Club_element_0 : decode prog_1_method_38_code 0 = .ok (.aload_n 0, 1) := by decide +kernel
theorem d_Club_element_1 : decode prog_1_method_38_code 1 = .ok (.iload_n 1, 1) := by decide +kernel
theorem d_Club_element_2 : decode prog_1_method_38_code 2 = .ok (.iload_n 2, 1) := by decide +kernel
theorem d_Club_element_3 : decode prog_1_method_38_code 3 = .ok (.invokevirtual 346, 3) := by decide +kernel
theorem d_Club_element_6 : decode prog_1_method_38_code 6 = .ok (.ifCond .eq 9, 3) := by decide +kernel
theorem d_Club_element_9 : decode prog_1_method_38_code 9 = .ok (.ldc2_w 155, 3) := by decide +kernel
theorem d_Club_element_12 : decode prog_1_method_38_code 12 = .ok (.goto 13, 3) := by decide +kernel
theorem d_Club_element_15 : decode prog_1_method_38_code 15 = .ok (.aload_n 0, 1) := by decide +kernel
theorem d_Club_element_16 : decode prog_1_method_38_code 16 = .ok (.getfield 75, 3) := by decide +kernel
theorem d_Club_element_19 : decode prog_1_method_38_code 19 = .ok (.iload_n 1, 1) := by decide +kernel
theorem d_Club_element_20 : decode prog_1_method_38_code 20 = .ok (.aaload, 1) := by decide +kernel
theorem d_Club_element_21 : decode prog_1_method_38_code 21 = .ok (.iload_n 2, 1) := by decide +kernel
theorem d_Club_element_22 : decode prog_1_method_38_code 22 = .ok (.invokevirtual 353, 3) := by decide +kernel
theorem d_Club_element_25 : decode prog_1_method_38_code 25 = .ok (.lreturn, 1) := by decide +kernel
theorem b_Club_element_0 {d : Nat} {x1 : Int32} {x2 : Int32} {h : am_H} {Q : am_Q} (k : m_Club_refuseElement d [.ref 0, .int x1, .int x2] h (fun r hh => am_W (X_Club_element (d + 1)) 6 [some (.ref 0), some (.int x1), some (.int x2)] (r.toList ++ []) hh Q)) : am_W (X_Club_element (d + 1)) 0 [some (.ref 0), some (.int x1), some (.int x2)] [] h Q :=
  am_aload_n d_Club_element_0 rfl (i := 0) rfl <|
    am_iload_n d_Club_element_1 rfl (i := 1) rfl <|
    am_iload_n d_Club_element_2 rfl (i := 2) rfl <|
    am_callV (vs := [.int x1, .int x2]) (st := []) (k := 0) (ci := 0) rfl d_Club_element_3 rfl rfl w_1239 w_1241 w_32 w_83 w_1242 p_Club_refuseElement (Nat.le_of_ble_eq_true rfl) (Nat.le_of_ble_eq_true rfl) rfl k
theorem b_Club_element_6 {d : Nat} {x1 : Int32} {x2 : Int32} {y0 : Int32} {h : am_H} {Q : am_Q} (kt : y0 = 0 → am_W (X_Club_element d) 15 [some (.ref 0), some (.int x1), some (.int x2)] [] h Q) (kf : ¬ y0 = 0 → am_W (X_Club_element d) 9 [some (.ref 0), some (.int x1), some (.int x2)] [] h Q) : am_W (X_Club_element d) 6 [some (.ref 0), some (.int x1), some (.int x2)] [.int y0] h Q :=
  am_if_eq (tgt := 15) d_Club_element_6 (by decide) kt kf
theorem b_Club_element_9 {d : Nat} {x1 : Int32} {x2 : Int32} {h : am_H} {Q : am_Q} (q : Q (some (.long (-9223372036854775808))) h) : am_W (X_Club_element d) 9 [some (.ref 0), some (.int x1), some (.int x2)] [] h Q :=
  am_ldc2 (v := (-9223372036854775808)) d_Club_element_9 w_683 <|
    am_goto (tgt := 25) d_Club_element_12 (by decide) <|
    am_lret rfl d_Club_element_25 q
theorem b_Club_element_15 {d : Nat} {x1 : Int32} {x2 : Int32} {h : am_H} {Q : am_Q} (q0 : vp_in x1 6) (k : m_Shelf_read d [.ref (am_shp x1), .int x2] h (fun r hh => am_W (X_Club_element (d + 1)) 25 [some (.ref 0), some (.int x1), some (.int x2)] (r.toList ++ []) hh Q)) : am_W (X_Club_element (d + 1)) 15 [some (.ref 0), some (.int x1), some (.int x2)] [] h Q :=
  am_aload_n d_Club_element_15 rfl (i := 0) rfl <|
    am_getR (ci := 0) (i := 8) rfl rfl rfl (Nat.le_of_ble_eq_true rfl) w_370 d_Club_element_16 <|
    am_iload_n d_Club_element_19 rfl (i := 1) rfl <|
    am_aald (q := am_shp x1) rfl q0 (am_shq q0) d_Club_element_20 <|
    am_iload_n d_Club_element_21 rfl (i := 2) rfl <|
    am_callV (vs := [.int x2]) (st := []) (k := (am_shp x1)) (ci := 9) rfl d_Club_element_22 rfl (am_shl q0).1 w_1260 w_452 w_453 w_93 w_454 p_Shelf_read (Nat.le_of_ble_eq_true rfl) (Nat.le_of_ble_eq_true rfl) rfl k
theorem b_Club_element_25 {d : Nat} {x1 : Int32} {x2 : Int32} {y0 : Int64} {h : am_H} {Q : am_Q} (q : Q (some (.long y0)) h) : am_W (X_Club_element d) 25 [some (.ref 0), some (.int x1), some (.int x2)] [.long y0] h Q :=
  am_lret rfl d_Club_element_25 q
theorem t_Club_element_25 {d : Nat} {x1 : Int32} {x2 : Int32} {y0 : Int64} {h : am_H} {Q : am_Q} {res : Int64} (e : f_Club_element_25 h y0 = some res) (q : Q (some (.long res)) h) : am_W (X_Club_element (d + 2)) 25 [some (.ref 0), some (.int x1), some (.int x2)] [.long y0] h Q :=
  b_Club_element_25 (d := (d + 2)) (q := (am_rJp (v := y0) e q))
theorem t_Club_element_15 {d : Nat} {x1 : Int32} {x2 : Int32} {h : am_H} {Q : am_Q} {res : Int64} (e : f_Club_element_15 h x1 x2 = some res) (q : Q (some (.long res)) h) : am_W (X_Club_element (d + 2)) 15 [some (.ref 0), some (.int x1), some (.int x2)] [] h Q :=
  (am_bd (am_ga e)).elim fun p hp => b_Club_element_15 (d := (d + 1)) (q0 := (am_okv (am_gd e))) (k := c_Shelf_read (d := d + 1) (am_shl (am_okv (am_gd e))) hp.1 (t_Club_element_25 hp.2 q))
theorem t_Club_element_9 {d : Nat} {x1 : Int32} {x2 : Int32} {h : am_H} {Q : am_Q} {res : Int64} (e : f_Club_element_9 h = some res) (q : Q (some (.long res)) h) : am_W (X_Club_element (d + 2)) 9 [some (.ref 0), some (.int x1), some (.int x2)] [] h Q :=
  b_Club_element_9 (d := (d + 2)) (q := (am_rJp (v := (-9223372036854775808)) e q))
theorem t_Club_element_6 {d : Nat} {x1 : Int32} {x2 : Int32} {y0 : Int32} {h : am_H} {Q : am_Q} {res : Int64} (e : f_Club_element_6 h x1 x2 y0 = some res) (q : Q (some (.long res)) h) : am_W (X_Club_element (d + 2)) 6 [some (.ref 0), some (.int x1), some (.int x2)] [.int y0] h Q :=
  b_Club_element_6 (d := (d + 2)) (kt := fun c => (t_Club_element_15 (am_ift e c) q)) (kf := fun c => (t_Club_element_9 (am_ife e c) q))
theorem t_Club_element_0 {d : Nat} {x1 : Int32} {x2 : Int32} {h : am_H} {Q : am_Q} {res : Int64} (e : f_Club_element h x1 x2 = some res) (q : Q (some (.long res)) h) : am_W (X_Club_element (d + 2)) 0 [some (.ref 0), some (.int x1), some (.int x2)] [] h Q :=
  (am_bd e).elim fun p hp => b_Club_element_0 (d := (d + 1)) (k := c_Club_refuseElement (d := d) hp.1 (t_Club_element_6 hp.2 q))
theorem c_Club_element {d : Nat} {x1 : Int32} {x2 : Int32} {h : am_H} {Q : am_Q} {res : Int64} (e : f_Club_element h x1 x2 = some res) (q : Q (some (.long res)) h) : m_Club_element (d + 2) [.ref 0, .int x1, .int x2] h Q :=
  e_Club_element (t_Club_element_0 e q)
theorem d_Shelf_copyFrom_0 : decode prog_9_method_16_code 0 = .ok (.aload_n 1, 1) := by decide +kernel
theorem d_Shelf_copyFrom_1 : decode prog_9_method_16_code 1 = .ok (.iload_n 2, 1) := by decide +kernel
theorem d_Shelf_copyFrom_2 : decode prog_9_method_16_code 2 = .ok (.iload 4, 2) := by decide +kernel
theorem d_Shelf_copyFrom_4 : decode prog_9_method_16_code 4 = .ok (.invokevirtual 45, 3) := by decide +kernel
theorem d_Shelf_copyFrom_7 : decode prog_9_method_16_code 7 = .ok (.ifCond .eq 28, 3) := by decide +kernel
theorem d_Shelf_copyFrom_10 : decode prog_9_method_16_code 10 = .ok (.aload_n 0, 1) := by decide +kernel
theorem d_Shelf_copyFrom_11 : decode prog_9_method_16_code 11 = .ok (.iload_n 3, 1) := by decide +kernel
theorem d_Shelf_copyFrom_12 : decode prog_9_method_16_code 12 = .ok (.iload 4, 2) := by decide +kernel
theorem d_Shelf_copyFrom_14 : decode prog_9_method_16_code 14 = .ok (.invokevirtual 45, 3) := by decide +kernel
theorem d_Shelf_copyFrom_17 : decode prog_9_method_16_code 17 = .ok (.ifCond .eq 18, 3) := by decide +kernel
theorem d_Shelf_copyFrom_20 : decode prog_9_method_16_code 20 = .ok (.aload_n 1, 1) := by decide +kernel
theorem d_Shelf_copyFrom_21 : decode prog_9_method_16_code 21 = .ok (.getfield 9, 3) := by decide +kernel
theorem d_Shelf_copyFrom_24 : decode prog_9_method_16_code 24 = .ok (.iload_n 2, 1) := by decide +kernel
theorem d_Shelf_copyFrom_25 : decode prog_9_method_16_code 25 = .ok (.aload_n 0, 1) := by decide +kernel
theorem d_Shelf_copyFrom_26 : decode prog_9_method_16_code 26 = .ok (.getfield 9, 3) := by decide +kernel
theorem d_Shelf_copyFrom_29 : decode prog_9_method_16_code 29 = .ok (.iload_n 3, 1) := by decide +kernel
theorem d_Shelf_copyFrom_30 : decode prog_9_method_16_code 30 = .ok (.iload 4, 2) := by decide +kernel
theorem d_Shelf_copyFrom_32 : decode prog_9_method_16_code 32 = .ok (.invokestatic 49, 3) := by decide +kernel
theorem d_Shelf_copyFrom_35 : decode prog_9_method_16_code 35 = .ok (.return_, 1) := by decide +kernel
theorem b_Shelf_copyFrom_0 {d : Nat} {a0 : Nat} {a1 : Nat} {x2 : Int32} {x3 : Int32} {x4 : Int32} {h : am_H} {Q : am_Q} (sa0 : am_shf a0) (sa1 : am_shf a1) (k : m_Shelf_hasPlaces d [.ref a1, .int x2, .int x4] h (fun r hh => am_W (X_Shelf_copyFrom (d + 1)) 7 [some (.ref a0), some (.ref a1), some (.int x2), some (.int x3), some (.int x4)] (r.toList ++ []) hh Q)) : am_W (X_Shelf_copyFrom (d + 1)) 0 [some (.ref a0), some (.ref a1), some (.int x2), some (.int x3), some (.int x4)] [] h Q :=
  am_aload_n d_Shelf_copyFrom_0 rfl (i := 1) rfl <|
    am_iload_n d_Shelf_copyFrom_1 rfl (i := 2) rfl <|
    am_iload d_Shelf_copyFrom_2 rfl <|
    am_callV (vs := [.int x2, .int x4]) (st := []) (k := a1) (ci := 9) rfl d_Shelf_copyFrom_4 rfl sa1.1 w_1273 w_448 w_449 w_93 w_450 p_Shelf_hasPlaces (Nat.le_of_ble_eq_true rfl) (Nat.le_of_ble_eq_true rfl) rfl k
theorem b_Shelf_copyFrom_7 {d : Nat} {a0 : Nat} {a1 : Nat} {x2 : Int32} {x3 : Int32} {x4 : Int32} {y0 : Bool} {h : am_H} {Q : am_Q} (sa0 : am_shf a0) (sa1 : am_shf a1) (kt : (am_b y0) = 0 → am_W (X_Shelf_copyFrom d) 35 [some (.ref a0), some (.ref a1), some (.int x2), some (.int x3), some (.int x4)] [] h Q) (kf : ¬ (am_b y0) = 0 → am_W (X_Shelf_copyFrom d) 10 [some (.ref a0), some (.ref a1), some (.int x2), some (.int x3), some (.int x4)] [] h Q) : am_W (X_Shelf_copyFrom d) 7 [some (.ref a0), some (.ref a1), some (.int x2), some (.int x3), some (.int x4)] [.int (am_b y0)] h Q :=
  am_if_eq (tgt := 35) d_Shelf_copyFrom_7 (by decide) kt kf
theorem b_Shelf_copyFrom_10 {d : Nat} {a0 : Nat} {a1 : Nat} {x2 : Int32} {x3 : Int32} {x4 : Int32} {h : am_H} {Q : am_Q} (sa0 : am_shf a0) (sa1 : am_shf a1) (k : m_Shelf_hasPlaces d [.ref a0, .int x3, .int x4] h (fun r hh => am_W (X_Shelf_copyFrom (d + 1)) 17 [some (.ref a0), some (.ref a1), some (.int x2), some (.int x3), some (.int x4)] (r.toList ++ []) hh Q)) : am_W (X_Shelf_copyFrom (d + 1)) 10 [some (.ref a0), some (.ref a1), some (.int x2), some (.int x3), some (.int x4)] [] h Q :=
  am_aload_n d_Shelf_copyFrom_10 rfl (i := 0) rfl <|
    am_iload_n d_Shelf_copyFrom_11 rfl (i := 3) rfl <|
    am_iload d_Shelf_copyFrom_12 rfl <|
    am_callV (vs := [.int x3, .int x4]) (st := []) (k := a0) (ci := 9) rfl d_Shelf_copyFrom_14 rfl sa0.1 w_1273 w_448 w_449 w_93 w_450 p_Shelf_hasPlaces (Nat.le_of_ble_eq_true rfl) (Nat.le_of_ble_eq_true rfl) rfl k
theorem b_Shelf_copyFrom_17 {d : Nat} {a0 : Nat} {a1 : Nat} {x2 : Int32} {x3 : Int32} {x4 : Int32} {y0 : Bool} {h : am_H} {Q : am_Q} (sa0 : am_shf a0) (sa1 : am_shf a1) (kt : (am_b y0) = 0 → am_W (X_Shelf_copyFrom d) 35 [some (.ref a0), some (.ref a1), some (.int x2), some (.int x3), some (.int x4)] [] h Q) (kf : ¬ (am_b y0) = 0 → am_W (X_Shelf_copyFrom d) 20 [some (.ref a0), some (.ref a1), some (.int x2), some (.int x3), some (.int x4)] [] h Q) : am_W (X_Shelf_copyFrom d) 17 [some (.ref a0), some (.ref a1), some (.int x2), some (.int x3), some (.int x4)] [.int (am_b y0)] h Q :=
  am_if_eq (tgt := 35) d_Shelf_copyFrom_17 (by decide) kt kf
theorem b_Shelf_copyFrom_20 {d : Nat} {a0 : Nat} {a1 : Nat} {x2 : Int32} {x3 : Int32} {x4 : Int32} {h : am_H} {Q : am_Q} (sa0 : am_shf a0) (sa1 : am_shf a1) (q0 : ¬ x2 < 0) (q1 : ¬ x3 < 0) (q2 : ¬ x4 < 0) (q3 : x2.toNatClampNeg + x4.toNatClampNeg ≤ 60) (q4 : x3.toNatClampNeg + x4.toNatClampNeg ≤ 60) (k : am_W (X_Shelf_copyFrom d) 35 [some (.ref a0), some (.ref a1), some (.int x2), some (.int x3), some (.int x4)] [] (am_cL h (a1 + 1) (a0 + 1) x2.toNatClampNeg x3.toNatClampNeg x4.toNatClampNeg) Q) : am_W (X_Shelf_copyFrom d) 20 [some (.ref a0), some (.ref a1), some (.int x2), some (.int x3), some (.int x4)] [] h Q :=
  am_aload_n d_Shelf_copyFrom_20 rfl (i := 1) rfl <|
    am_getR (ci := 9) (i := 0) rfl sa1.1 rfl (Nat.le_of_ble_eq_true rfl) w_349 d_Shelf_copyFrom_21 <|
    am_iload_n d_Shelf_copyFrom_24 rfl (i := 2) rfl <|
    am_aload_n d_Shelf_copyFrom_25 rfl (i := 0) rfl <|
    am_getR (ci := 9) (i := 0) rfl sa0.1 rfl (Nat.le_of_ble_eq_true rfl) w_349 d_Shelf_copyFrom_26 <|
    am_iload_n d_Shelf_copyFrom_29 rfl (i := 3) rfl <|
    am_iload d_Shelf_copyFrom_30 rfl <|
    am_copyL d_Shelf_copyFrom_32 w_1274 w_495 w_494 w_96 sa1.2 sa0.2 q0 q1 q2 q3 q4 (Nat.le_of_ble_eq_true rfl) k
theorem b_Shelf_copyFrom_35 {d : Nat} {a0 : Nat} {a1 : Nat} {x2 : Int32} {x3 : Int32} {x4 : Int32} {h : am_H} {Q : am_Q} (sa0 : am_shf a0) (sa1 : am_shf a1) (q : Q none h) : am_W (X_Shelf_copyFrom d) 35 [some (.ref a0), some (.ref a1), some (.int x2), some (.int x3), some (.int x4)] [] h Q :=
  am_vret rfl d_Shelf_copyFrom_35 q
theorem t_Shelf_copyFrom_35 {d : Nat} {a0 : Nat} {a1 : Nat} {x2 : Int32} {x3 : Int32} {x4 : Int32} {h : am_H} {Q : am_Q} {res : am_H} (sa0 : am_shf a0) (sa1 : am_shf a1) (e : f_Shelf_copyFrom_35 h = some res) (q : Q none res) : am_W (X_Shelf_copyFrom (d + 1)) 35 [some (.ref a0), some (.ref a1), some (.int x2), some (.int x3), some (.int x4)] [] h Q :=
  b_Shelf_copyFrom_35 (d := (d + 1)) (sa0 := sa0) (sa1 := sa1) (q := (am_rVpi e q))
theorem t_Shelf_copyFrom_20 {d : Nat} {a0 : Nat} {a1 : Nat} {x2 : Int32} {x3 : Int32} {x4 : Int32} {h : am_H} {Q : am_Q} {res : am_H} (sa0 : am_shf a0) (sa1 : am_shf a1) (e : f_Shelf_copyFrom_20 h a0 a1 x2 x3 x4 = some res) (q : Q none res) : am_W (X_Shelf_copyFrom (d + 1)) 20 [some (.ref a0), some (.ref a1), some (.int x2), some (.int x3), some (.int x4)] [] h Q :=
  b_Shelf_copyFrom_20 (d := (d + 1)) (q0 := (am_gd e)) (q1 := (am_gd (am_ga e))) (q2 := (am_gd (am_ga (am_ga e)))) (q3 := (am_gd (am_ga (am_ga (am_ga e))))) (q4 := (am_gd (am_ga (am_ga (am_ga (am_ga e)))))) (sa0 := sa0) (sa1 := sa1) (k := (t_Shelf_copyFrom_35 sa0 sa1 (am_ga (am_ga (am_ga (am_ga (am_ga e))))) q))
theorem t_Shelf_copyFrom_17 {d : Nat} {a0 : Nat} {a1 : Nat} {x2 : Int32} {x3 : Int32} {x4 : Int32} {y0 : Bool} {h : am_H} {Q : am_Q} {res : am_H} (sa0 : am_shf a0) (sa1 : am_shf a1) (e : f_Shelf_copyFrom_17 h a0 a1 x2 x3 x4 y0 = some res) (q : Q none res) : am_W (X_Shelf_copyFrom (d + 1)) 17 [some (.ref a0), some (.ref a1), some (.int x2), some (.int x3), some (.int x4)] [.int (am_b y0)] h Q :=
  b_Shelf_copyFrom_17 (d := (d + 1)) (sa0 := sa0) (sa1 := sa1) (kt := fun c => (t_Shelf_copyFrom_35 sa0 sa1 (am_iff e (am_bz c)) q)) (kf := fun c => (t_Shelf_copyFrom_20 sa0 sa1 (am_ift e (am_bn c)) q))
theorem t_Shelf_copyFrom_10 {d : Nat} {a0 : Nat} {a1 : Nat} {x2 : Int32} {x3 : Int32} {x4 : Int32} {h : am_H} {Q : am_Q} {res : am_H} (sa0 : am_shf a0) (sa1 : am_shf a1) (e : f_Shelf_copyFrom_10 h a0 a1 x2 x3 x4 = some res) (q : Q none res) : am_W (X_Shelf_copyFrom (d + 1)) 10 [some (.ref a0), some (.ref a1), some (.int x2), some (.int x3), some (.int x4)] [] h Q :=
  b_Shelf_copyFrom_10 (d := d) (sa0 := sa0) (sa1 := sa1) (k := c_Shelf_hasPlaces (d := d) sa0 rfl (t_Shelf_copyFrom_17 sa0 sa1 e q))
theorem t_Shelf_copyFrom_7 {d : Nat} {a0 : Nat} {a1 : Nat} {x2 : Int32} {x3 : Int32} {x4 : Int32} {y0 : Bool} {h : am_H} {Q : am_Q} {res : am_H} (sa0 : am_shf a0) (sa1 : am_shf a1) (e : f_Shelf_copyFrom_7 h a0 a1 x2 x3 x4 y0 = some res) (q : Q none res) : am_W (X_Shelf_copyFrom (d + 1)) 7 [some (.ref a0), some (.ref a1), some (.int x2), some (.int x3), some (.int x4)] [.int (am_b y0)] h Q :=
  b_Shelf_copyFrom_7 (d := (d + 1)) (sa0 := sa0) (sa1 := sa1) (kt := fun c => (t_Shelf_copyFrom_35 sa0 sa1 (am_iff e (am_bz c)) q)) (kf := fun c => (t_Shelf_copyFrom_10 sa0 sa1 (am_ift e (am_bn c)) q))
theorem t_Shelf_copyFrom_0 {d : Nat} {a0 : Nat} {a1 : Nat} {x2 : Int32} {x3 : Int32} {x4 : Int32} {h : am_H} {Q : am_Q} {res : am_H} (sa0 : am_shf a0) (sa1 : am_shf a1) (e : f_Shelf_copyFrom h a0 a1 x2 x3 x4 = some res) (q : Q none res) : am_W (X_Shelf_copyFrom (d + 1)) 0 [some (.ref a0), some (.ref a1), some (.int x2), some (.int x3), some (.int x4)] [] h Q :=
  b_Shelf_copyFrom_0 (d := d) (sa0 := sa0) (sa1 := sa1) (k := c_Shelf_hasPlaces (d := d) sa1 rfl (t_Shelf_copyFrom_7 sa0 sa1 e q))
theorem c_Shelf_copyFrom {d : Nat} {a0 : Nat} {a1 : Nat} {x2 : Int32} {x3 : Int32} {x4 : Int32} {h : am_H} {Q : am_Q} {res : am_H} (sa0 : am_shf a0) (sa1 : am_shf a1) (e : f_Shelf_copyFrom h a0 a1 x2 x3 x4 = some res) (q : Q none res) : m_Shelf_copyFrom (d + 1) [.ref a0, .ref a1, .int x2, .int x3, .int x4] h Q :=
  e_Shelf_copyFrom (t_Shelf_copyFrom_0 sa0 sa1 e q)
theorem d_Shelf_sortHeld_0 : decode prog_9_method_10_code 0 = .ok (.aload_n 0, 1) := by decide +kernel
theorem d_Shelf_sortHeld_1 : decode prog_9_method_10_code 1 = .ok (.getfield 17, 3) := by decide +kernel
theorem d_Shelf_sortHeld_4 : decode prog_9_method_10_code 4 = .ok (.ireturn, 1) := by decide +kernel
theorem b_Shelf_sortHeld_0 {d : Nat} {a0 : Nat} {h : am_H} {Q : am_Q} (sa0 : am_shf a0) (q : Q (some (.int (h.1 a0 2))) h) : am_W (X_Shelf_sortHeld d) 0 [some (.ref a0)] [] h Q :=
  am_aload_n d_Shelf_sortHeld_0 rfl (i := 0) rfl <|
    am_getI (ci := 9) (i := 2) rfl sa0.1 rfl (Nat.le_of_ble_eq_true rfl) w_351 d_Shelf_sortHeld_1 <|
    am_iret rfl d_Shelf_sortHeld_4 q
theorem t_Shelf_sortHeld_0 {d : Nat} {a0 : Nat} {h : am_H} {Q : am_Q} {res : Int32} (sa0 : am_shf a0) (e : f_Shelf_sortHeld h a0 = res) (q : Q (some (.int res)) h) : am_W (X_Shelf_sortHeld d) 0 [some (.ref a0)] [] h Q :=
  b_Shelf_sortHeld_0 (d := d) (sa0 := sa0) (q := (am_rIt (v := (h.1 a0 2)) e q))
theorem c_Shelf_sortHeld {d : Nat} {a0 : Nat} {h : am_H} {Q : am_Q} {res : Int32} (sa0 : am_shf a0) (e : f_Shelf_sortHeld h a0 = res) (q : Q (some (.int res)) h) : m_Shelf_sortHeld d [.ref a0] h Q :=
  e_Shelf_sortHeld (t_Shelf_sortHeld_0 sa0 e q)
theorem d_Club_shift_0 : decode prog_1_method_39_code 0 = .ok (.iload_n 1, 1) := by decide +kernel
theorem d_Club_shift_1 : decode prog_1_method_39_code 1 = .ok (.invokestatic 95, 3) := by decide +kernel
theorem d_Club_shift_4 : decode prog_1_method_39_code 4 = .ok (.ifCond .eq 10, 3) := by decide +kernel
theorem d_Club_shift_7 : decode prog_1_method_39_code 7 = .ok (.iload_n 3, 1) := by decide +kernel
theorem d_Club_shift_8 : decode prog_1_method_39_code 8 = .ok (.invokestatic 95, 3) := by decide +kernel
theorem d_Club_shift_11 : decode prog_1_method_39_code 11 = .ok (.ifCond .ne 5, 3) := by decide +kernel
theorem d_Club_shift_14 : decode prog_1_method_39_code 14 = .ok (.iconst (-1), 1) := by decide +kernel
theorem d_Club_shift_15 : decode prog_1_method_39_code 15 = .ok (.ireturn, 1) := by decide +kernel
theorem d_Club_shift_16 : decode prog_1_method_39_code 16 = .ok (.aload_n 0, 1) := by decide +kernel
theorem d_Club_shift_17 : decode prog_1_method_39_code 17 = .ok (.getfield 75, 3) := by decide +kernel
theorem d_Club_shift_20 : decode prog_1_method_39_code 20 = .ok (.iload_n 1, 1) := by decide +kernel
theorem d_Club_shift_21 : decode prog_1_method_39_code 21 = .ok (.aaload, 1) := by decide +kernel
theorem d_Club_shift_22 : decode prog_1_method_39_code 22 = .ok (.astore 6, 2) := by decide +kernel
theorem d_Club_shift_24 : decode prog_1_method_39_code 24 = .ok (.aload_n 0, 1) := by decide +kernel
theorem d_Club_shift_25 : decode prog_1_method_39_code 25 = .ok (.getfield 75, 3) := by decide +kernel
theorem d_Club_shift_28 : decode prog_1_method_39_code 28 = .ok (.iload_n 3, 1) := by decide +kernel
theorem d_Club_shift_29 : decode prog_1_method_39_code 29 = .ok (.aaload, 1) := by decide +kernel
theorem d_Club_shift_30 : decode prog_1_method_39_code 30 = .ok (.astore 7, 2) := by decide +kernel
theorem d_Club_shift_32 : decode prog_1_method_39_code 32 = .ok (.aload 6, 2) := by decide +kernel
theorem d_Club_shift_34 : decode prog_1_method_39_code 34 = .ok (.invokevirtual 99, 3) := by decide +kernel
theorem d_Club_shift_37 : decode prog_1_method_39_code 37 = .ok (.ifCond .ne 11, 3) := by decide +kernel
theorem d_Club_shift_40 : decode prog_1_method_39_code 40 = .ok (.aload 7, 2) := by decide +kernel
theorem d_Club_shift_42 : decode prog_1_method_39_code 42 = .ok (.invokevirtual 99, 3) := by decide +kernel
theorem d_Club_shift_45 : decode prog_1_method_39_code 45 = .ok (.ifCond .eq 6, 3) := by decide +kernel
theorem d_Club_shift_48 : decode prog_1_method_39_code 48 = .ok (.bipush (-11), 2) := by decide +kernel
theorem d_Club_shift_50 : decode prog_1_method_39_code 50 = .ok (.ireturn, 1) := by decide +kernel
theorem d_Club_shift_51 : decode prog_1_method_39_code 51 = .ok (.aload 6, 2) := by decide +kernel
theorem d_Club_shift_53 : decode prog_1_method_39_code 53 = .ok (.invokevirtual 356, 3) := by decide +kernel
theorem d_Club_shift_56 : decode prog_1_method_39_code 56 = .ok (.ifCond .eq 24, 3) := by decide +kernel
theorem d_Club_shift_59 : decode prog_1_method_39_code 59 = .ok (.aload 7, 2) := by decide +kernel
theorem d_Club_shift_61 : decode prog_1_method_39_code 61 = .ok (.invokevirtual 356, 3) := by decide +kernel
theorem d_Club_shift_64 : decode prog_1_method_39_code 64 = .ok (.ifCond .eq 16, 3) := by decide +kernel
theorem d_Club_shift_67 : decode prog_1_method_39_code 67 = .ok (.aload 6, 2) := by decide +kernel
theorem d_Club_shift_69 : decode prog_1_method_39_code 69 = .ok (.invokevirtual 359, 3) := by decide +kernel
theorem d_Club_shift_72 : decode prog_1_method_39_code 72 = .ok (.aload 7, 2) := by decide +kernel
theorem d_Club_shift_74 : decode prog_1_method_39_code 74 = .ok (.invokevirtual 359, 3) := by decide +kernel
theorem d_Club_shift_77 : decode prog_1_method_39_code 77 = .ok (.if_icmp .eq 6, 3) := by decide +kernel
theorem d_Club_shift_80 : decode prog_1_method_39_code 80 = .ok (.bipush (-12), 2) := by decide +kernel
theorem d_Club_shift_82 : decode prog_1_method_39_code 82 = .ok (.ireturn, 1) := by decide +kernel
theorem d_Club_shift_83 : decode prog_1_method_39_code 83 = .ok (.aload 6, 2) := by decide +kernel
theorem d_Club_shift_85 : decode prog_1_method_39_code 85 = .ok (.iload_n 2, 1) := by decide +kernel
theorem d_Club_shift_86 : decode prog_1_method_39_code 86 = .ok (.iload 5, 2) := by decide +kernel
theorem d_Club_shift_88 : decode prog_1_method_39_code 88 = .ok (.invokevirtual 362, 3) := by decide +kernel
theorem d_Club_shift_91 : decode prog_1_method_39_code 91 = .ok (.ifCond .eq 15, 3) := by decide +kernel
theorem d_Club_shift_94 : decode prog_1_method_39_code 94 = .ok (.aload 7, 2) := by decide +kernel
theorem d_Club_shift_96 : decode prog_1_method_39_code 96 = .ok (.iload 4, 2) := by decide +kernel
theorem d_Club_shift_98 : decode prog_1_method_39_code 98 = .ok (.iload 5, 2) := by decide +kernel
theorem d_Club_shift_100 : decode prog_1_method_39_code 100 = .ok (.invokevirtual 362, 3) := by decide +kernel
theorem d_Club_shift_103 : decode prog_1_method_39_code 103 = .ok (.ifCond .ne 6, 3) := by decide +kernel
theorem d_Club_shift_106 : decode prog_1_method_39_code 106 = .ok (.bipush (-13), 2) := by decide +kernel
theorem d_Club_shift_108 : decode prog_1_method_39_code 108 = .ok (.ireturn, 1) := by decide +kernel
theorem d_Club_shift_109 : decode prog_1_method_39_code 109 = .ok (.aload 7, 2) := by decide +kernel
theorem d_Club_shift_111 : decode prog_1_method_39_code 111 = .ok (.aload 6, 2) := by decide +kernel
theorem d_Club_shift_113 : decode prog_1_method_39_code 113 = .ok (.iload_n 2, 1) := by decide +kernel
theorem d_Club_shift_114 : decode prog_1_method_39_code 114 = .ok (.iload 4, 2) := by decide +kernel
theorem d_Club_shift_116 : decode prog_1_method_39_code 116 = .ok (.iload 5, 2) := by decide +kernel
theorem d_Club_shift_118 : decode prog_1_method_39_code 118 = .ok (.invokevirtual 365, 3) := by decide +kernel
theorem d_Club_shift_121 : decode prog_1_method_39_code 121 = .ok (.iload 5, 2) := by decide +kernel
theorem d_Club_shift_123 : decode prog_1_method_39_code 123 = .ok (.ireturn, 1) := by decide +kernel
theorem b_Club_shift_0 {d : Nat} {x1 : Int32} {x2 : Int32} {x3 : Int32} {x4 : Int32} {x5 : Int32} {h : am_H} {Q : am_Q} (k : m_Club_isShelf d [.int x1] h (fun r hh => am_W (X_Club_shift (d + 1)) 4 [some (.ref 0), some (.int x1), some (.int x2), some (.int x3), some (.int x4), some (.int x5), none, none] (r.toList ++ []) hh Q)) : am_W (X_Club_shift (d + 1)) 0 [some (.ref 0), some (.int x1), some (.int x2), some (.int x3), some (.int x4), some (.int x5), none, none] [] h Q :=
  am_iload_n d_Club_shift_0 rfl (i := 1) rfl <|
    am_callS (vs := [.int x1]) (st := []) rfl d_Club_shift_1 w_431 w_432 w_83 w_433 p_Club_isShelf (Nat.le_of_ble_eq_true rfl) (Nat.le_of_ble_eq_true rfl) rfl k
theorem b_Club_shift_4 {d : Nat} {x1 : Int32} {x2 : Int32} {x3 : Int32} {x4 : Int32} {x5 : Int32} {y0 : Bool} {h : am_H} {Q : am_Q} (kt : (am_b y0) = 0 → am_W (X_Club_shift d) 14 [some (.ref 0), some (.int x1), some (.int x2), some (.int x3), some (.int x4), some (.int x5), none, none] [] h Q) (kf : ¬ (am_b y0) = 0 → am_W (X_Club_shift d) 7 [some (.ref 0), some (.int x1), some (.int x2), some (.int x3), some (.int x4), some (.int x5), none, none] [] h Q) : am_W (X_Club_shift d) 4 [some (.ref 0), some (.int x1), some (.int x2), some (.int x3), some (.int x4), some (.int x5), none, none] [.int (am_b y0)] h Q :=
  am_if_eq (tgt := 14) d_Club_shift_4 (by decide) kt kf
theorem b_Club_shift_7 {d : Nat} {x1 : Int32} {x2 : Int32} {x3 : Int32} {x4 : Int32} {x5 : Int32} {h : am_H} {Q : am_Q} (k : m_Club_isShelf d [.int x3] h (fun r hh => am_W (X_Club_shift (d + 1)) 11 [some (.ref 0), some (.int x1), some (.int x2), some (.int x3), some (.int x4), some (.int x5), none, none] (r.toList ++ []) hh Q)) : am_W (X_Club_shift (d + 1)) 7 [some (.ref 0), some (.int x1), some (.int x2), some (.int x3), some (.int x4), some (.int x5), none, none] [] h Q :=
  am_iload_n d_Club_shift_7 rfl (i := 3) rfl <|
    am_callS (vs := [.int x3]) (st := []) rfl d_Club_shift_8 w_431 w_432 w_83 w_433 p_Club_isShelf (Nat.le_of_ble_eq_true rfl) (Nat.le_of_ble_eq_true rfl) rfl k
theorem b_Club_shift_11 {d : Nat} {x1 : Int32} {x2 : Int32} {x3 : Int32} {x4 : Int32} {x5 : Int32} {y0 : Bool} {h : am_H} {Q : am_Q} (kt : ¬ (am_b y0) = 0 → am_W (X_Club_shift d) 16 [some (.ref 0), some (.int x1), some (.int x2), some (.int x3), some (.int x4), some (.int x5), none, none] [] h Q) (kf : (am_b y0) = 0 → am_W (X_Club_shift d) 14 [some (.ref 0), some (.int x1), some (.int x2), some (.int x3), some (.int x4), some (.int x5), none, none] [] h Q) : am_W (X_Club_shift d) 11 [some (.ref 0), some (.int x1), some (.int x2), some (.int x3), some (.int x4), some (.int x5), none, none] [.int (am_b y0)] h Q :=
  am_if_ne (tgt := 16) d_Club_shift_11 (by decide) kt kf
theorem b_Club_shift_14 {d : Nat} {x1 : Int32} {x2 : Int32} {x3 : Int32} {x4 : Int32} {x5 : Int32} {h : am_H} {Q : am_Q} (q : Q (some (.int (-1))) h) : am_W (X_Club_shift d) 14 [some (.ref 0), some (.int x1), some (.int x2), some (.int x3), some (.int x4), some (.int x5), none, none] [] h Q :=
  am_iconst (v := (-1)) d_Club_shift_14 (by decide) <|
    am_iret rfl d_Club_shift_15 q
theorem b_Club_shift_16 {d : Nat} {x1 : Int32} {x2 : Int32} {x3 : Int32} {x4 : Int32} {x5 : Int32} {h : am_H} {Q : am_Q} (q0 : vp_in x1 6) (q1 : vp_in x3 6) (k : m_Shelf_isEmpty d [.ref (am_shp x1)] h (fun r hh => am_W (X_Club_shift (d + 1)) 37 [some (.ref 0), some (.int x1), some (.int x2), some (.int x3), some (.int x4), some (.int x5), some (.ref (am_shp x1)), some (.ref (am_shp x3))] (r.toList ++ []) hh Q)) : am_W (X_Club_shift (d + 1)) 16 [some (.ref 0), some (.int x1), some (.int x2), some (.int x3), some (.int x4), some (.int x5), none, none] [] h Q :=
  am_aload_n d_Club_shift_16 rfl (i := 0) rfl <|
    am_getR (ci := 0) (i := 8) rfl rfl rfl (Nat.le_of_ble_eq_true rfl) w_370 d_Club_shift_17 <|
    am_iload_n d_Club_shift_20 rfl (i := 1) rfl <|
    am_aald (q := am_shp x1) rfl q0 (am_shq q0) d_Club_shift_21 <|
    am_astore (ls' := [some (.ref 0), some (.int x1), some (.int x2), some (.int x3), some (.int x4), some (.int x5), some (.ref (am_shp x1)), none]) d_Club_shift_22 (Nat.le_of_ble_eq_true rfl) rfl <|
    am_aload_n d_Club_shift_24 rfl (i := 0) rfl <|
    am_getR (ci := 0) (i := 8) rfl rfl rfl (Nat.le_of_ble_eq_true rfl) w_370 d_Club_shift_25 <|
    am_iload_n d_Club_shift_28 rfl (i := 3) rfl <|
    am_aald (q := am_shp x3) rfl q1 (am_shq q1) d_Club_shift_29 <|
    am_astore (ls' := [some (.ref 0), some (.int x1), some (.int x2), some (.int x3), some (.int x4), some (.int x5), some (.ref (am_shp x1)), some (.ref (am_shp x3))]) d_Club_shift_30 (Nat.le_of_ble_eq_true rfl) rfl <|
    am_aload d_Club_shift_32 rfl <|
    am_callV (vs := []) (st := []) (k := (am_shp x1)) (ci := 9) rfl d_Club_shift_34 rfl (am_shl q0).1 w_434 w_435 w_436 w_93 w_437 p_Shelf_isEmpty (Nat.le_of_ble_eq_true rfl) (Nat.le_of_ble_eq_true rfl) rfl k
theorem b_Club_shift_37 {d : Nat} {x1 : Int32} {x2 : Int32} {x3 : Int32} {x4 : Int32} {x5 : Int32} {a6 : Nat} {a7 : Nat} {y0 : Bool} {h : am_H} {Q : am_Q} (sa6 : am_shf a6) (sa7 : am_shf a7) (kt : ¬ (am_b y0) = 0 → am_W (X_Club_shift d) 48 [some (.ref 0), some (.int x1), some (.int x2), some (.int x3), some (.int x4), some (.int x5), some (.ref a6), some (.ref a7)] [] h Q) (kf : (am_b y0) = 0 → am_W (X_Club_shift d) 40 [some (.ref 0), some (.int x1), some (.int x2), some (.int x3), some (.int x4), some (.int x5), some (.ref a6), some (.ref a7)] [] h Q) : am_W (X_Club_shift d) 37 [some (.ref 0), some (.int x1), some (.int x2), some (.int x3), some (.int x4), some (.int x5), some (.ref a6), some (.ref a7)] [.int (am_b y0)] h Q :=
  am_if_ne (tgt := 48) d_Club_shift_37 (by decide) kt kf
theorem b_Club_shift_40 {d : Nat} {x1 : Int32} {x2 : Int32} {x3 : Int32} {x4 : Int32} {x5 : Int32} {a6 : Nat} {a7 : Nat} {h : am_H} {Q : am_Q} (sa6 : am_shf a6) (sa7 : am_shf a7) (k : m_Shelf_isEmpty d [.ref a7] h (fun r hh => am_W (X_Club_shift (d + 1)) 45 [some (.ref 0), some (.int x1), some (.int x2), some (.int x3), some (.int x4), some (.int x5), some (.ref a6), some (.ref a7)] (r.toList ++ []) hh Q)) : am_W (X_Club_shift (d + 1)) 40 [some (.ref 0), some (.int x1), some (.int x2), some (.int x3), some (.int x4), some (.int x5), some (.ref a6), some (.ref a7)] [] h Q :=
  am_aload d_Club_shift_40 rfl <|
    am_callV (vs := []) (st := []) (k := a7) (ci := 9) rfl d_Club_shift_42 rfl sa7.1 w_434 w_435 w_436 w_93 w_437 p_Shelf_isEmpty (Nat.le_of_ble_eq_true rfl) (Nat.le_of_ble_eq_true rfl) rfl k
theorem b_Club_shift_45 {d : Nat} {x1 : Int32} {x2 : Int32} {x3 : Int32} {x4 : Int32} {x5 : Int32} {a6 : Nat} {a7 : Nat} {y0 : Bool} {h : am_H} {Q : am_Q} (sa6 : am_shf a6) (sa7 : am_shf a7) (kt : (am_b y0) = 0 → am_W (X_Club_shift d) 51 [some (.ref 0), some (.int x1), some (.int x2), some (.int x3), some (.int x4), some (.int x5), some (.ref a6), some (.ref a7)] [] h Q) (kf : ¬ (am_b y0) = 0 → am_W (X_Club_shift d) 48 [some (.ref 0), some (.int x1), some (.int x2), some (.int x3), some (.int x4), some (.int x5), some (.ref a6), some (.ref a7)] [] h Q) : am_W (X_Club_shift d) 45 [some (.ref 0), some (.int x1), some (.int x2), some (.int x3), some (.int x4), some (.int x5), some (.ref a6), some (.ref a7)] [.int (am_b y0)] h Q :=
  am_if_eq (tgt := 51) d_Club_shift_45 (by decide) kt kf
theorem b_Club_shift_48 {d : Nat} {x1 : Int32} {x2 : Int32} {x3 : Int32} {x4 : Int32} {x5 : Int32} {a6 : Nat} {a7 : Nat} {h : am_H} {Q : am_Q} (sa6 : am_shf a6) (sa7 : am_shf a7) (q : Q (some (.int (-11))) h) : am_W (X_Club_shift d) 48 [some (.ref 0), some (.int x1), some (.int x2), some (.int x3), some (.int x4), some (.int x5), some (.ref a6), some (.ref a7)] [] h Q :=
  am_bipush (v := (-11)) d_Club_shift_48 (by decide) <|
    am_iret rfl d_Club_shift_50 q
theorem b_Club_shift_51 {d : Nat} {x1 : Int32} {x2 : Int32} {x3 : Int32} {x4 : Int32} {x5 : Int32} {a6 : Nat} {a7 : Nat} {h : am_H} {Q : am_Q} (sa6 : am_shf a6) (sa7 : am_shf a7) (k : m_Shelf_isRow d [.ref a6] h (fun r hh => am_W (X_Club_shift (d + 1)) 56 [some (.ref 0), some (.int x1), some (.int x2), some (.int x3), some (.int x4), some (.int x5), some (.ref a6), some (.ref a7)] (r.toList ++ []) hh Q)) : am_W (X_Club_shift (d + 1)) 51 [some (.ref 0), some (.int x1), some (.int x2), some (.int x3), some (.int x4), some (.int x5), some (.ref a6), some (.ref a7)] [] h Q :=
  am_aload d_Club_shift_51 rfl <|
    am_callV (vs := []) (st := []) (k := a6) (ci := 9) rfl d_Club_shift_53 rfl sa6.1 w_1243 w_1244 w_1245 w_93 w_1246 p_Shelf_isRow (Nat.le_of_ble_eq_true rfl) (Nat.le_of_ble_eq_true rfl) rfl k
theorem b_Club_shift_56 {d : Nat} {x1 : Int32} {x2 : Int32} {x3 : Int32} {x4 : Int32} {x5 : Int32} {a6 : Nat} {a7 : Nat} {y0 : Bool} {h : am_H} {Q : am_Q} (sa6 : am_shf a6) (sa7 : am_shf a7) (kt : (am_b y0) = 0 → am_W (X_Club_shift d) 80 [some (.ref 0), some (.int x1), some (.int x2), some (.int x3), some (.int x4), some (.int x5), some (.ref a6), some (.ref a7)] [] h Q) (kf : ¬ (am_b y0) = 0 → am_W (X_Club_shift d) 59 [some (.ref 0), some (.int x1), some (.int x2), some (.int x3), some (.int x4), some (.int x5), some (.ref a6), some (.ref a7)] [] h Q) : am_W (X_Club_shift d) 56 [some (.ref 0), some (.int x1), some (.int x2), some (.int x3), some (.int x4), some (.int x5), some (.ref a6), some (.ref a7)] [.int (am_b y0)] h Q :=
  am_if_eq (tgt := 80) d_Club_shift_56 (by decide) kt kf
theorem b_Club_shift_59 {d : Nat} {x1 : Int32} {x2 : Int32} {x3 : Int32} {x4 : Int32} {x5 : Int32} {a6 : Nat} {a7 : Nat} {h : am_H} {Q : am_Q} (sa6 : am_shf a6) (sa7 : am_shf a7) (k : m_Shelf_isRow d [.ref a7] h (fun r hh => am_W (X_Club_shift (d + 1)) 64 [some (.ref 0), some (.int x1), some (.int x2), some (.int x3), some (.int x4), some (.int x5), some (.ref a6), some (.ref a7)] (r.toList ++ []) hh Q)) : am_W (X_Club_shift (d + 1)) 59 [some (.ref 0), some (.int x1), some (.int x2), some (.int x3), some (.int x4), some (.int x5), some (.ref a6), some (.ref a7)] [] h Q :=
  am_aload d_Club_shift_59 rfl <|
    am_callV (vs := []) (st := []) (k := a7) (ci := 9) rfl d_Club_shift_61 rfl sa7.1 w_1243 w_1244 w_1245 w_93 w_1246 p_Shelf_isRow (Nat.le_of_ble_eq_true rfl) (Nat.le_of_ble_eq_true rfl) rfl k
theorem b_Club_shift_64 {d : Nat} {x1 : Int32} {x2 : Int32} {x3 : Int32} {x4 : Int32} {x5 : Int32} {a6 : Nat} {a7 : Nat} {y0 : Bool} {h : am_H} {Q : am_Q} (sa6 : am_shf a6) (sa7 : am_shf a7) (kt : (am_b y0) = 0 → am_W (X_Club_shift d) 80 [some (.ref 0), some (.int x1), some (.int x2), some (.int x3), some (.int x4), some (.int x5), some (.ref a6), some (.ref a7)] [] h Q) (kf : ¬ (am_b y0) = 0 → am_W (X_Club_shift d) 67 [some (.ref 0), some (.int x1), some (.int x2), some (.int x3), some (.int x4), some (.int x5), some (.ref a6), some (.ref a7)] [] h Q) : am_W (X_Club_shift d) 64 [some (.ref 0), some (.int x1), some (.int x2), some (.int x3), some (.int x4), some (.int x5), some (.ref a6), some (.ref a7)] [.int (am_b y0)] h Q :=
  am_if_eq (tgt := 80) d_Club_shift_64 (by decide) kt kf
theorem b_Club_shift_67 {d : Nat} {x1 : Int32} {x2 : Int32} {x3 : Int32} {x4 : Int32} {x5 : Int32} {a6 : Nat} {a7 : Nat} {h : am_H} {Q : am_Q} (sa6 : am_shf a6) (sa7 : am_shf a7) (k : m_Shelf_sortHeld d [.ref a6] h (fun r hh => am_W (X_Club_shift (d + 1)) 72 [some (.ref 0), some (.int x1), some (.int x2), some (.int x3), some (.int x4), some (.int x5), some (.ref a6), some (.ref a7)] (r.toList ++ []) hh Q)) : am_W (X_Club_shift (d + 1)) 67 [some (.ref 0), some (.int x1), some (.int x2), some (.int x3), some (.int x4), some (.int x5), some (.ref a6), some (.ref a7)] [] h Q :=
  am_aload d_Club_shift_67 rfl <|
    am_callV (vs := []) (st := []) (k := a6) (ci := 9) rfl d_Club_shift_69 rfl sa6.1 w_1265 w_1266 w_1267 w_93 w_1268 p_Shelf_sortHeld (Nat.le_of_ble_eq_true rfl) (Nat.le_of_ble_eq_true rfl) rfl k
theorem b_Club_shift_72 {d : Nat} {x1 : Int32} {x2 : Int32} {x3 : Int32} {x4 : Int32} {x5 : Int32} {a6 : Nat} {a7 : Nat} {y0 : Int32} {h : am_H} {Q : am_Q} (sa6 : am_shf a6) (sa7 : am_shf a7) (k : m_Shelf_sortHeld d [.ref a7] h (fun r hh => am_W (X_Club_shift (d + 1)) 77 [some (.ref 0), some (.int x1), some (.int x2), some (.int x3), some (.int x4), some (.int x5), some (.ref a6), some (.ref a7)] (r.toList ++ [.int y0]) hh Q)) : am_W (X_Club_shift (d + 1)) 72 [some (.ref 0), some (.int x1), some (.int x2), some (.int x3), some (.int x4), some (.int x5), some (.ref a6), some (.ref a7)] [.int y0] h Q :=
  am_aload d_Club_shift_72 rfl <|
    am_callV (vs := []) (st := [.int y0]) (k := a7) (ci := 9) rfl d_Club_shift_74 rfl sa7.1 w_1265 w_1266 w_1267 w_93 w_1268 p_Shelf_sortHeld (Nat.le_of_ble_eq_true rfl) (Nat.le_of_ble_eq_true rfl) rfl k
theorem b_Club_shift_77 {d : Nat} {x1 : Int32} {x2 : Int32} {x3 : Int32} {x4 : Int32} {x5 : Int32} {a6 : Nat} {a7 : Nat} {y1 : Int32} {y0 : Int32} {h : am_H} {Q : am_Q} (sa6 : am_shf a6) (sa7 : am_shf a7) (kt : y0 = y1 → am_W (X_Club_shift d) 83 [some (.ref 0), some (.int x1), some (.int x2), some (.int x3), some (.int x4), some (.int x5), some (.ref a6), some (.ref a7)] [] h Q) (kf : ¬ y0 = y1 → am_W (X_Club_shift d) 80 [some (.ref 0), some (.int x1), some (.int x2), some (.int x3), some (.int x4), some (.int x5), some (.ref a6), some (.ref a7)] [] h Q) : am_W (X_Club_shift d) 77 [some (.ref 0), some (.int x1), some (.int x2), some (.int x3), some (.int x4), some (.int x5), some (.ref a6), some (.ref a7)] [.int y1, .int y0] h Q :=
  am_icmp_eq (tgt := 83) d_Club_shift_77 (by decide) kt kf
theorem b_Club_shift_80 {d : Nat} {x1 : Int32} {x2 : Int32} {x3 : Int32} {x4 : Int32} {x5 : Int32} {a6 : Nat} {a7 : Nat} {h : am_H} {Q : am_Q} (sa6 : am_shf a6) (sa7 : am_shf a7) (q : Q (some (.int (-12))) h) : am_W (X_Club_shift d) 80 [some (.ref 0), some (.int x1), some (.int x2), some (.int x3), some (.int x4), some (.int x5), some (.ref a6), some (.ref a7)] [] h Q :=
  am_bipush (v := (-12)) d_Club_shift_80 (by decide) <|
    am_iret rfl d_Club_shift_82 q
theorem b_Club_shift_83 {d : Nat} {x1 : Int32} {x2 : Int32} {x3 : Int32} {x4 : Int32} {x5 : Int32} {a6 : Nat} {a7 : Nat} {h : am_H} {Q : am_Q} (sa6 : am_shf a6) (sa7 : am_shf a7) (k : m_Shelf_hasPlaces d [.ref a6, .int x2, .int x5] h (fun r hh => am_W (X_Club_shift (d + 1)) 91 [some (.ref 0), some (.int x1), some (.int x2), some (.int x3), some (.int x4), some (.int x5), some (.ref a6), some (.ref a7)] (r.toList ++ []) hh Q)) : am_W (X_Club_shift (d + 1)) 83 [some (.ref 0), some (.int x1), some (.int x2), some (.int x3), some (.int x4), some (.int x5), some (.ref a6), some (.ref a7)] [] h Q :=
  am_aload d_Club_shift_83 rfl <|
    am_iload_n d_Club_shift_85 rfl (i := 2) rfl <|
    am_iload d_Club_shift_86 rfl <|
    am_callV (vs := [.int x2, .int x5]) (st := []) (k := a6) (ci := 9) rfl d_Club_shift_88 rfl sa6.1 w_1247 w_448 w_449 w_93 w_450 p_Shelf_hasPlaces (Nat.le_of_ble_eq_true rfl) (Nat.le_of_ble_eq_true rfl) rfl k
theorem b_Club_shift_91 {d : Nat} {x1 : Int32} {x2 : Int32} {x3 : Int32} {x4 : Int32} {x5 : Int32} {a6 : Nat} {a7 : Nat} {y0 : Bool} {h : am_H} {Q : am_Q} (sa6 : am_shf a6) (sa7 : am_shf a7) (kt : (am_b y0) = 0 → am_W (X_Club_shift d) 106 [some (.ref 0), some (.int x1), some (.int x2), some (.int x3), some (.int x4), some (.int x5), some (.ref a6), some (.ref a7)] [] h Q) (kf : ¬ (am_b y0) = 0 → am_W (X_Club_shift d) 94 [some (.ref 0), some (.int x1), some (.int x2), some (.int x3), some (.int x4), some (.int x5), some (.ref a6), some (.ref a7)] [] h Q) : am_W (X_Club_shift d) 91 [some (.ref 0), some (.int x1), some (.int x2), some (.int x3), some (.int x4), some (.int x5), some (.ref a6), some (.ref a7)] [.int (am_b y0)] h Q :=
  am_if_eq (tgt := 106) d_Club_shift_91 (by decide) kt kf
theorem b_Club_shift_94 {d : Nat} {x1 : Int32} {x2 : Int32} {x3 : Int32} {x4 : Int32} {x5 : Int32} {a6 : Nat} {a7 : Nat} {h : am_H} {Q : am_Q} (sa6 : am_shf a6) (sa7 : am_shf a7) (k : m_Shelf_hasPlaces d [.ref a7, .int x4, .int x5] h (fun r hh => am_W (X_Club_shift (d + 1)) 103 [some (.ref 0), some (.int x1), some (.int x2), some (.int x3), some (.int x4), some (.int x5), some (.ref a6), some (.ref a7)] (r.toList ++ []) hh Q)) : am_W (X_Club_shift (d + 1)) 94 [some (.ref 0), some (.int x1), some (.int x2), some (.int x3), some (.int x4), some (.int x5), some (.ref a6), some (.ref a7)] [] h Q :=
  am_aload d_Club_shift_94 rfl <|
    am_iload d_Club_shift_96 rfl <|
    am_iload d_Club_shift_98 rfl <|
    am_callV (vs := [.int x4, .int x5]) (st := []) (k := a7) (ci := 9) rfl d_Club_shift_100 rfl sa7.1 w_1247 w_448 w_449 w_93 w_450 p_Shelf_hasPlaces (Nat.le_of_ble_eq_true rfl) (Nat.le_of_ble_eq_true rfl) rfl k
theorem b_Club_shift_103 {d : Nat} {x1 : Int32} {x2 : Int32} {x3 : Int32} {x4 : Int32} {x5 : Int32} {a6 : Nat} {a7 : Nat} {y0 : Bool} {h : am_H} {Q : am_Q} (sa6 : am_shf a6) (sa7 : am_shf a7) (kt : ¬ (am_b y0) = 0 → am_W (X_Club_shift d) 109 [some (.ref 0), some (.int x1), some (.int x2), some (.int x3), some (.int x4), some (.int x5), some (.ref a6), some (.ref a7)] [] h Q) (kf : (am_b y0) = 0 → am_W (X_Club_shift d) 106 [some (.ref 0), some (.int x1), some (.int x2), some (.int x3), some (.int x4), some (.int x5), some (.ref a6), some (.ref a7)] [] h Q) : am_W (X_Club_shift d) 103 [some (.ref 0), some (.int x1), some (.int x2), some (.int x3), some (.int x4), some (.int x5), some (.ref a6), some (.ref a7)] [.int (am_b y0)] h Q :=
  am_if_ne (tgt := 109) d_Club_shift_103 (by decide) kt kf
theorem b_Club_shift_106 {d : Nat} {x1 : Int32} {x2 : Int32} {x3 : Int32} {x4 : Int32} {x5 : Int32} {a6 : Nat} {a7 : Nat} {h : am_H} {Q : am_Q} (sa6 : am_shf a6) (sa7 : am_shf a7) (q : Q (some (.int (-13))) h) : am_W (X_Club_shift d) 106 [some (.ref 0), some (.int x1), some (.int x2), some (.int x3), some (.int x4), some (.int x5), some (.ref a6), some (.ref a7)] [] h Q :=
  am_bipush (v := (-13)) d_Club_shift_106 (by decide) <|
    am_iret rfl d_Club_shift_108 q
theorem b_Club_shift_109 {d : Nat} {x1 : Int32} {x2 : Int32} {x3 : Int32} {x4 : Int32} {x5 : Int32} {a6 : Nat} {a7 : Nat} {h : am_H} {Q : am_Q} (sa6 : am_shf a6) (sa7 : am_shf a7) (k : m_Shelf_copyFrom d [.ref a7, .ref a6, .int x2, .int x4, .int x5] h (fun r hh => am_W (X_Club_shift (d + 1)) 121 [some (.ref 0), some (.int x1), some (.int x2), some (.int x3), some (.int x4), some (.int x5), some (.ref a6), some (.ref a7)] (r.toList ++ []) hh Q)) : am_W (X_Club_shift (d + 1)) 109 [some (.ref 0), some (.int x1), some (.int x2), some (.int x3), some (.int x4), some (.int x5), some (.ref a6), some (.ref a7)] [] h Q :=
  am_aload d_Club_shift_109 rfl <|
    am_aload d_Club_shift_111 rfl <|
    am_iload_n d_Club_shift_113 rfl (i := 2) rfl <|
    am_iload d_Club_shift_114 rfl <|
    am_iload d_Club_shift_116 rfl <|
    am_callV (vs := [.ref a6, .int x2, .int x4, .int x5]) (st := []) (k := a7) (ci := 9) rfl d_Club_shift_118 rfl sa7.1 w_1269 w_1270 w_1271 w_93 w_1272 p_Shelf_copyFrom (Nat.le_of_ble_eq_true rfl) (Nat.le_of_ble_eq_true rfl) rfl k
theorem b_Club_shift_121 {d : Nat} {x1 : Int32} {x2 : Int32} {x3 : Int32} {x4 : Int32} {x5 : Int32} {a6 : Nat} {a7 : Nat} {h : am_H} {Q : am_Q} (sa6 : am_shf a6) (sa7 : am_shf a7) (q : Q (some (.int x5)) h) : am_W (X_Club_shift d) 121 [some (.ref 0), some (.int x1), some (.int x2), some (.int x3), some (.int x4), some (.int x5), some (.ref a6), some (.ref a7)] [] h Q :=
  am_iload d_Club_shift_121 rfl <|
    am_iret rfl d_Club_shift_123 q
theorem t_Club_shift_14 {d : Nat} {x1 : Int32} {x2 : Int32} {x3 : Int32} {x4 : Int32} {x5 : Int32} {h : am_H} {Q : am_Q} {res : Int32 × am_H} (e : f_Club_shift_14 h = some res) (q : Q (some (.int res.1)) res.2) : am_W (X_Club_shift (d + 2)) 14 [some (.ref 0), some (.int x1), some (.int x2), some (.int x3), some (.int x4), some (.int x5), none, none] [] h Q :=
  b_Club_shift_14 (d := (d + 2)) (q := (am_rIpi (v := (-1)) e q))
theorem t_Club_shift_48 {d : Nat} {x1 : Int32} {x2 : Int32} {x3 : Int32} {x4 : Int32} {x5 : Int32} {a6 : Nat} {a7 : Nat} {h : am_H} {Q : am_Q} {res : Int32 × am_H} (sa6 : am_shf a6) (sa7 : am_shf a7) (e : f_Club_shift_48 h = some res) (q : Q (some (.int res.1)) res.2) : am_W (X_Club_shift (d + 2)) 48 [some (.ref 0), some (.int x1), some (.int x2), some (.int x3), some (.int x4), some (.int x5), some (.ref a6), some (.ref a7)] [] h Q :=
  b_Club_shift_48 (d := (d + 2)) (sa6 := sa6) (sa7 := sa7) (q := (am_rIpi (v := (-11)) e q))
theorem t_Club_shift_80 {d : Nat} {x1 : Int32} {x2 : Int32} {x3 : Int32} {x4 : Int32} {x5 : Int32} {a6 : Nat} {a7 : Nat} {h : am_H} {Q : am_Q} {res : Int32 × am_H} (sa6 : am_shf a6) (sa7 : am_shf a7) (e : f_Club_shift_80 h = some res) (q : Q (some (.int res.1)) res.2) : am_W (X_Club_shift (d + 2)) 80 [some (.ref 0), some (.int x1), some (.int x2), some (.int x3), some (.int x4), some (.int x5), some (.ref a6), some (.ref a7)] [] h Q :=
  b_Club_shift_80 (d := (d + 2)) (sa6 := sa6) (sa7 := sa7) (q := (am_rIpi (v := (-12)) e q))
theorem t_Club_shift_106 {d : Nat} {x1 : Int32} {x2 : Int32} {x3 : Int32} {x4 : Int32} {x5 : Int32} {a6 : Nat} {a7 : Nat} {h : am_H} {Q : am_Q} {res : Int32 × am_H} (sa6 : am_shf a6) (sa7 : am_shf a7) (e : f_Club_shift_106 h = some res) (q : Q (some (.int res.1)) res.2) : am_W (X_Club_shift (d + 2)) 106 [some (.ref 0), some (.int x1), some (.int x2), some (.int x3), some (.int x4), some (.int x5), some (.ref a6), some (.ref a7)] [] h Q :=
  b_Club_shift_106 (d := (d + 2)) (sa6 := sa6) (sa7 := sa7) (q := (am_rIpi (v := (-13)) e q))
theorem t_Club_shift_121 {d : Nat} {x1 : Int32} {x2 : Int32} {x3 : Int32} {x4 : Int32} {x5 : Int32} {a6 : Nat} {a7 : Nat} {h : am_H} {Q : am_Q} {res : Int32 × am_H} (sa6 : am_shf a6) (sa7 : am_shf a7) (e : f_Club_shift_121 h x5 = some res) (q : Q (some (.int res.1)) res.2) : am_W (X_Club_shift (d + 2)) 121 [some (.ref 0), some (.int x1), some (.int x2), some (.int x3), some (.int x4), some (.int x5), some (.ref a6), some (.ref a7)] [] h Q :=
  b_Club_shift_121 (d := (d + 2)) (sa6 := sa6) (sa7 := sa7) (q := (am_rIpi (v := x5) e q))
theorem t_Club_shift_109 {d : Nat} {x1 : Int32} {x2 : Int32} {x3 : Int32} {x4 : Int32} {x5 : Int32} {a6 : Nat} {a7 : Nat} {h : am_H} {Q : am_Q} {res : Int32 × am_H} (sa6 : am_shf a6) (sa7 : am_shf a7) (e : f_Club_shift_109 h x2 x4 x5 a6 a7 = some res) (q : Q (some (.int res.1)) res.2) : am_W (X_Club_shift (d + 2)) 109 [some (.ref 0), some (.int x1), some (.int x2), some (.int x3), some (.int x4), some (.int x5), some (.ref a6), some (.ref a7)] [] h Q :=
  (am_bd e).elim fun p hp => b_Club_shift_109 (d := (d + 1)) (sa6 := sa6) (sa7 := sa7) (k := c_Shelf_copyFrom (d := d) sa7 sa6 hp.1 (t_Club_shift_121 sa6 sa7 hp.2 q))
theorem t_Club_shift_103 {d : Nat} {x1 : Int32} {x2 : Int32} {x3 : Int32} {x4 : Int32} {x5 : Int32} {a6 : Nat} {a7 : Nat} {y0 : Bool} {h : am_H} {Q : am_Q} {res : Int32 × am_H} (sa6 : am_shf a6) (sa7 : am_shf a7) (e : f_Club_shift_103 h x2 x4 x5 a6 a7 y0 = some res) (q : Q (some (.int res.1)) res.2) : am_W (X_Club_shift (d + 2)) 103 [some (.ref 0), some (.int x1), some (.int x2), some (.int x3), some (.int x4), some (.int x5), some (.ref a6), some (.ref a7)] [.int (am_b y0)] h Q :=
  b_Club_shift_103 (d := (d + 2)) (sa6 := sa6) (sa7 := sa7) (kt := fun c => (t_Club_shift_109 sa6 sa7 (am_ift e (am_bn c)) q)) (kf := fun c => (t_Club_shift_106 sa6 sa7 (am_iff e (am_bz c)) q))
theorem t_Club_shift_94 {d : Nat} {x1 : Int32} {x2 : Int32} {x3 : Int32} {x4 : Int32} {x5 : Int32} {a6 : Nat} {a7 : Nat} {h : am_H} {Q : am_Q} {res : Int32 × am_H} (sa6 : am_shf a6) (sa7 : am_shf a7) (e : f_Club_shift_94 h x2 x4 x5 a6 a7 = some res) (q : Q (some (.int res.1)) res.2) : am_W (X_Club_shift (d + 2)) 94 [some (.ref 0), some (.int x1), some (.int x2), some (.int x3), some (.int x4), some (.int x5), some (.ref a6), some (.ref a7)] [] h Q :=
  b_Club_shift_94 (d := (d + 1)) (sa6 := sa6) (sa7 := sa7) (k := c_Shelf_hasPlaces (d := d + 1) sa7 rfl (t_Club_shift_103 sa6 sa7 e q))
theorem t_Club_shift_91 {d : Nat} {x1 : Int32} {x2 : Int32} {x3 : Int32} {x4 : Int32} {x5 : Int32} {a6 : Nat} {a7 : Nat} {y0 : Bool} {h : am_H} {Q : am_Q} {res : Int32 × am_H} (sa6 : am_shf a6) (sa7 : am_shf a7) (e : f_Club_shift_91 h x2 x4 x5 a6 a7 y0 = some res) (q : Q (some (.int res.1)) res.2) : am_W (X_Club_shift (d + 2)) 91 [some (.ref 0), some (.int x1), some (.int x2), some (.int x3), some (.int x4), some (.int x5), some (.ref a6), some (.ref a7)] [.int (am_b y0)] h Q :=
  b_Club_shift_91 (d := (d + 2)) (sa6 := sa6) (sa7 := sa7) (kt := fun c => (t_Club_shift_106 sa6 sa7 (am_iff e (am_bz c)) q)) (kf := fun c => (t_Club_shift_94 sa6 sa7 (am_ift e (am_bn c)) q))
theorem t_Club_shift_83 {d : Nat} {x1 : Int32} {x2 : Int32} {x3 : Int32} {x4 : Int32} {x5 : Int32} {a6 : Nat} {a7 : Nat} {h : am_H} {Q : am_Q} {res : Int32 × am_H} (sa6 : am_shf a6) (sa7 : am_shf a7) (e : f_Club_shift_83 h x2 x4 x5 a6 a7 = some res) (q : Q (some (.int res.1)) res.2) : am_W (X_Club_shift (d + 2)) 83 [some (.ref 0), some (.int x1), some (.int x2), some (.int x3), some (.int x4), some (.int x5), some (.ref a6), some (.ref a7)] [] h Q :=
  b_Club_shift_83 (d := (d + 1)) (sa6 := sa6) (sa7 := sa7) (k := c_Shelf_hasPlaces (d := d + 1) sa6 rfl (t_Club_shift_91 sa6 sa7 e q))
theorem t_Club_shift_77 {d : Nat} {x1 : Int32} {x2 : Int32} {x3 : Int32} {x4 : Int32} {x5 : Int32} {a6 : Nat} {a7 : Nat} {y1 : Int32} {y0 : Int32} {h : am_H} {Q : am_Q} {res : Int32 × am_H} (sa6 : am_shf a6) (sa7 : am_shf a7) (e : f_Club_shift_77 h x2 x4 x5 a6 a7 y1 y0 = some res) (q : Q (some (.int res.1)) res.2) : am_W (X_Club_shift (d + 2)) 77 [some (.ref 0), some (.int x1), some (.int x2), some (.int x3), some (.int x4), some (.int x5), some (.ref a6), some (.ref a7)] [.int y1, .int y0] h Q :=
  b_Club_shift_77 (d := (d + 2)) (sa6 := sa6) (sa7 := sa7) (kt := fun c => (t_Club_shift_83 sa6 sa7 (am_ift e c) q)) (kf := fun c => (t_Club_shift_80 sa6 sa7 (am_ife e c) q))
theorem t_Club_shift_72 {d : Nat} {x1 : Int32} {x2 : Int32} {x3 : Int32} {x4 : Int32} {x5 : Int32} {a6 : Nat} {a7 : Nat} {y0 : Int32} {h : am_H} {Q : am_Q} {res : Int32 × am_H} (sa6 : am_shf a6) (sa7 : am_shf a7) (e : f_Club_shift_72 h x2 x4 x5 a6 a7 y0 = some res) (q : Q (some (.int res.1)) res.2) : am_W (X_Club_shift (d + 2)) 72 [some (.ref 0), some (.int x1), some (.int x2), some (.int x3), some (.int x4), some (.int x5), some (.ref a6), some (.ref a7)] [.int y0] h Q :=
  b_Club_shift_72 (d := (d + 1)) (sa6 := sa6) (sa7 := sa7) (k := c_Shelf_sortHeld (d := d + 1) sa7 rfl (t_Club_shift_77 sa6 sa7 e q))
theorem t_Club_shift_67 {d : Nat} {x1 : Int32} {x2 : Int32} {x3 : Int32} {x4 : Int32} {x5 : Int32} {a6 : Nat} {a7 : Nat} {h : am_H} {Q : am_Q} {res : Int32 × am_H} (sa6 : am_shf a6) (sa7 : am_shf a7) (e : f_Club_shift_67 h x2 x4 x5 a6 a7 = some res) (q : Q (some (.int res.1)) res.2) : am_W (X_Club_shift (d + 2)) 67 [some (.ref 0), some (.int x1), some (.int x2), some (.int x3), some (.int x4), some (.int x5), some (.ref a6), some (.ref a7)] [] h Q :=
  b_Club_shift_67 (d := (d + 1)) (sa6 := sa6) (sa7 := sa7) (k := c_Shelf_sortHeld (d := d + 1) sa6 rfl (t_Club_shift_72 sa6 sa7 e q))
theorem t_Club_shift_64 {d : Nat} {x1 : Int32} {x2 : Int32} {x3 : Int32} {x4 : Int32} {x5 : Int32} {a6 : Nat} {a7 : Nat} {y0 : Bool} {h : am_H} {Q : am_Q} {res : Int32 × am_H} (sa6 : am_shf a6) (sa7 : am_shf a7) (e : f_Club_shift_64 h x2 x4 x5 a6 a7 y0 = some res) (q : Q (some (.int res.1)) res.2) : am_W (X_Club_shift (d + 2)) 64 [some (.ref 0), some (.int x1), some (.int x2), some (.int x3), some (.int x4), some (.int x5), some (.ref a6), some (.ref a7)] [.int (am_b y0)] h Q :=
  b_Club_shift_64 (d := (d + 2)) (sa6 := sa6) (sa7 := sa7) (kt := fun c => (t_Club_shift_80 sa6 sa7 (am_iff e (am_bz c)) q)) (kf := fun c => (t_Club_shift_67 sa6 sa7 (am_ift e (am_bn c)) q))
theorem t_Club_shift_59 {d : Nat} {x1 : Int32} {x2 : Int32} {x3 : Int32} {x4 : Int32} {x5 : Int32} {a6 : Nat} {a7 : Nat} {h : am_H} {Q : am_Q} {res : Int32 × am_H} (sa6 : am_shf a6) (sa7 : am_shf a7) (e : f_Club_shift_59 h x2 x4 x5 a6 a7 = some res) (q : Q (some (.int res.1)) res.2) : am_W (X_Club_shift (d + 2)) 59 [some (.ref 0), some (.int x1), some (.int x2), some (.int x3), some (.int x4), some (.int x5), some (.ref a6), some (.ref a7)] [] h Q :=
  b_Club_shift_59 (d := (d + 1)) (sa6 := sa6) (sa7 := sa7) (k := c_Shelf_isRow (d := d + 1) sa7 rfl (t_Club_shift_64 sa6 sa7 e q))
theorem t_Club_shift_56 {d : Nat} {x1 : Int32} {x2 : Int32} {x3 : Int32} {x4 : Int32} {x5 : Int32} {a6 : Nat} {a7 : Nat} {y0 : Bool} {h : am_H} {Q : am_Q} {res : Int32 × am_H} (sa6 : am_shf a6) (sa7 : am_shf a7) (e : f_Club_shift_56 h x2 x4 x5 a6 a7 y0 = some res) (q : Q (some (.int res.1)) res.2) : am_W (X_Club_shift (d + 2)) 56 [some (.ref 0), some (.int x1), some (.int x2), some (.int x3), some (.int x4), some (.int x5), some (.ref a6), some (.ref a7)] [.int (am_b y0)] h Q :=
  b_Club_shift_56 (d := (d + 2)) (sa6 := sa6) (sa7 := sa7) (kt := fun c => (t_Club_shift_80 sa6 sa7 (am_iff e (am_bz c)) q)) (kf := fun c => (t_Club_shift_59 sa6 sa7 (am_ift e (am_bn c)) q))
theorem t_Club_shift_51 {d : Nat} {x1 : Int32} {x2 : Int32} {x3 : Int32} {x4 : Int32} {x5 : Int32} {a6 : Nat} {a7 : Nat} {h : am_H} {Q : am_Q} {res : Int32 × am_H} (sa6 : am_shf a6) (sa7 : am_shf a7) (e : f_Club_shift_51 h x2 x4 x5 a6 a7 = some res) (q : Q (some (.int res.1)) res.2) : am_W (X_Club_shift (d + 2)) 51 [some (.ref 0), some (.int x1), some (.int x2), some (.int x3), some (.int x4), some (.int x5), some (.ref a6), some (.ref a7)] [] h Q :=
  b_Club_shift_51 (d := (d + 1)) (sa6 := sa6) (sa7 := sa7) (k := c_Shelf_isRow (d := d + 1) sa6 rfl (t_Club_shift_56 sa6 sa7 e q))
theorem t_Club_shift_45 {d : Nat} {x1 : Int32} {x2 : Int32} {x3 : Int32} {x4 : Int32} {x5 : Int32} {a6 : Nat} {a7 : Nat} {y0 : Bool} {h : am_H} {Q : am_Q} {res : Int32 × am_H} (sa6 : am_shf a6) (sa7 : am_shf a7) (e : f_Club_shift_45 h x2 x4 x5 a6 a7 y0 = some res) (q : Q (some (.int res.1)) res.2) : am_W (X_Club_shift (d + 2)) 45 [some (.ref 0), some (.int x1), some (.int x2), some (.int x3), some (.int x4), some (.int x5), some (.ref a6), some (.ref a7)] [.int (am_b y0)] h Q :=
  b_Club_shift_45 (d := (d + 2)) (sa6 := sa6) (sa7 := sa7) (kt := fun c => (t_Club_shift_51 sa6 sa7 (am_iff e (am_bz c)) q)) (kf := fun c => (t_Club_shift_48 sa6 sa7 (am_ift e (am_bn c)) q))
theorem t_Club_shift_40 {d : Nat} {x1 : Int32} {x2 : Int32} {x3 : Int32} {x4 : Int32} {x5 : Int32} {a6 : Nat} {a7 : Nat} {h : am_H} {Q : am_Q} {res : Int32 × am_H} (sa6 : am_shf a6) (sa7 : am_shf a7) (e : f_Club_shift_40 h x2 x4 x5 a6 a7 = some res) (q : Q (some (.int res.1)) res.2) : am_W (X_Club_shift (d + 2)) 40 [some (.ref 0), some (.int x1), some (.int x2), some (.int x3), some (.int x4), some (.int x5), some (.ref a6), some (.ref a7)] [] h Q :=
  b_Club_shift_40 (d := (d + 1)) (sa6 := sa6) (sa7 := sa7) (k := c_Shelf_isEmpty (d := d + 1) sa7 rfl (t_Club_shift_45 sa6 sa7 e q))
theorem t_Club_shift_37 {d : Nat} {x1 : Int32} {x2 : Int32} {x3 : Int32} {x4 : Int32} {x5 : Int32} {a6 : Nat} {a7 : Nat} {y0 : Bool} {h : am_H} {Q : am_Q} {res : Int32 × am_H} (sa6 : am_shf a6) (sa7 : am_shf a7) (e : f_Club_shift_37 h x2 x4 x5 a6 a7 y0 = some res) (q : Q (some (.int res.1)) res.2) : am_W (X_Club_shift (d + 2)) 37 [some (.ref 0), some (.int x1), some (.int x2), some (.int x3), some (.int x4), some (.int x5), some (.ref a6), some (.ref a7)] [.int (am_b y0)] h Q :=
  b_Club_shift_37 (d := (d + 2)) (sa6 := sa6) (sa7 := sa7) (kt := fun c => (t_Club_shift_48 sa6 sa7 (am_ift e (am_bn c)) q)) (kf := fun c => (t_Club_shift_40 sa6 sa7 (am_iff e (am_bz c)) q))
theorem t_Club_shift_16 {d : Nat} {x1 : Int32} {x2 : Int32} {x3 : Int32} {x4 : Int32} {x5 : Int32} {h : am_H} {Q : am_Q} {res : Int32 × am_H} (e : f_Club_shift_16 h x1 x2 x3 x4 x5 = some res) (q : Q (some (.int res.1)) res.2) : am_W (X_Club_shift (d + 2)) 16 [some (.ref 0), some (.int x1), some (.int x2), some (.int x3), some (.int x4), some (.int x5), none, none] [] h Q :=
  b_Club_shift_16 (d := (d + 1)) (q0 := (am_okv (am_gd e))) (q1 := (am_okv (am_gd (am_ga e)))) (k := c_Shelf_isEmpty (d := d + 1) (am_shl (am_okv (am_gd e))) rfl (t_Club_shift_37 (am_shl (am_okv (am_gd e))) (am_shl (am_okv (am_gd (am_ga e)))) (am_ga (am_ga e)) q))
theorem t_Club_shift_11 {d : Nat} {x1 : Int32} {x2 : Int32} {x3 : Int32} {x4 : Int32} {x5 : Int32} {y0 : Bool} {h : am_H} {Q : am_Q} {res : Int32 × am_H} (e : f_Club_shift_11 h x1 x2 x3 x4 x5 y0 = some res) (q : Q (some (.int res.1)) res.2) : am_W (X_Club_shift (d + 2)) 11 [some (.ref 0), some (.int x1), some (.int x2), some (.int x3), some (.int x4), some (.int x5), none, none] [.int (am_b y0)] h Q :=
  b_Club_shift_11 (d := (d + 2)) (kt := fun c => (t_Club_shift_16 (am_ift e (am_bn c)) q)) (kf := fun c => (t_Club_shift_14 (am_iff e (am_bz c)) q))
theorem t_Club_shift_7 {d : Nat} {x1 : Int32} {x2 : Int32} {x3 : Int32} {x4 : Int32} {x5 : Int32} {h : am_H} {Q : am_Q} {res : Int32 × am_H} (e : f_Club_shift_7 h x1 x2 x3 x4 x5 = some res) (q : Q (some (.int res.1)) res.2) : am_W (X_Club_shift (d + 2)) 7 [some (.ref 0), some (.int x1), some (.int x2), some (.int x3), some (.int x4), some (.int x5), none, none] [] h Q :=
  b_Club_shift_7 (d := (d + 1)) (k := c_Club_isShelf (d := d + 1) rfl (t_Club_shift_11 e q))
theorem t_Club_shift_4 {d : Nat} {x1 : Int32} {x2 : Int32} {x3 : Int32} {x4 : Int32} {x5 : Int32} {y0 : Bool} {h : am_H} {Q : am_Q} {res : Int32 × am_H} (e : f_Club_shift_4 h x1 x2 x3 x4 x5 y0 = some res) (q : Q (some (.int res.1)) res.2) : am_W (X_Club_shift (d + 2)) 4 [some (.ref 0), some (.int x1), some (.int x2), some (.int x3), some (.int x4), some (.int x5), none, none] [.int (am_b y0)] h Q :=
  b_Club_shift_4 (d := (d + 2)) (kt := fun c => (t_Club_shift_14 (am_iff e (am_bz c)) q)) (kf := fun c => (t_Club_shift_7 (am_ift e (am_bn c)) q))
theorem t_Club_shift_0 {d : Nat} {x1 : Int32} {x2 : Int32} {x3 : Int32} {x4 : Int32} {x5 : Int32} {h : am_H} {Q : am_Q} {res : Int32 × am_H} (e : f_Club_shift h x1 x2 x3 x4 x5 = some res) (q : Q (some (.int res.1)) res.2) : am_W (X_Club_shift (d + 2)) 0 [some (.ref 0), some (.int x1), some (.int x2), some (.int x3), some (.int x4), some (.int x5), none, none] [] h Q :=
  b_Club_shift_0 (d := (d + 1)) (k := c_Club_isShelf (d := d + 1) rfl (t_Club_shift_4 e q))
theorem c_Club_shift {d : Nat} {x1 : Int32} {x2 : Int32} {x3 : Int32} {x4 : Int32} {x5 : Int32} {h : am_H} {Q : am_Q} {res : Int32 × am_H} (e : f_Club_shift h x1 x2 x3 x4 x5 = some res) (q : Q (some (.int res.1)) res.2) : m_Club_shift (d + 2) [.ref 0, .int x1, .int x2, .int x3, .int x4, .int x5] h Q :=
  e_Club_shift (t_Club_shift_0 e q)
theorem d_Shelf_wordHeld_0 : decode prog_9_method_9_code 0 = .ok (.aload_n 0, 1) := by decide +kernel
theorem d_Shelf_wordHeld_1 : decode prog_9_method_9_code 1 = .ok (.getfield 13, 3) := by decide +kernel
theorem d_Shelf_wordHeld_4 : decode prog_9_method_9_code 4 = .ok (.ireturn, 1) := by decide +kernel
theorem b_Shelf_wordHeld_0 {d : Nat} {a0 : Nat} {h : am_H} {Q : am_Q} (sa0 : am_shf a0) (q : Q (some (.int (h.1 a0 1))) h) : am_W (X_Shelf_wordHeld d) 0 [some (.ref a0)] [] h Q :=
  am_aload_n d_Shelf_wordHeld_0 rfl (i := 0) rfl <|
    am_getI (ci := 9) (i := 1) rfl sa0.1 rfl (Nat.le_of_ble_eq_true rfl) w_350 d_Shelf_wordHeld_1 <|
    am_iret rfl d_Shelf_wordHeld_4 q
theorem t_Shelf_wordHeld_0 {d : Nat} {a0 : Nat} {h : am_H} {Q : am_Q} {res : Int32} (sa0 : am_shf a0) (e : f_Shelf_wordHeld h a0 = res) (q : Q (some (.int res)) h) : am_W (X_Shelf_wordHeld d) 0 [some (.ref a0)] [] h Q :=
  b_Shelf_wordHeld_0 (d := d) (sa0 := sa0) (q := (am_rIt (v := (h.1 a0 1)) e q))
theorem c_Shelf_wordHeld {d : Nat} {a0 : Nat} {h : am_H} {Q : am_Q} {res : Int32} (sa0 : am_shf a0) (e : f_Shelf_wordHeld h a0 = res) (q : Q (some (.int res)) h) : m_Shelf_wordHeld d [.ref a0] h Q :=
  e_Shelf_wordHeld (t_Shelf_wordHeld_0 sa0 e q)
theorem d_Words_isUnder_0 : decode prog_10_method_3_code 0 = .ok (.iload_n 0, 1) := by decide +kernel
theorem d_Words_isUnder_1 : decode prog_10_method_3_code 1 = .ok (.istore_n 2, 1) := by decide +kernel
theorem d_Words_isUnder_2 : decode prog_10_method_3_code 2 = .ok (.iconst 0, 1) := by decide +kernel
theorem d_Words_isUnder_3 : decode prog_10_method_3_code 3 = .ok (.istore_n 3, 1) := by decide +kernel
theorem d_Words_isUnder_4 : decode prog_10_method_3_code 4 = .ok (.iload_n 3, 1) := by decide +kernel
theorem d_Words_isUnder_5 : decode prog_10_method_3_code 5 = .ok (.getstatic 25, 3) := by decide +kernel
theorem d_Words_isUnder_8 : decode prog_10_method_3_code 8 = .ok (.arraylength, 1) := by decide +kernel
theorem d_Words_isUnder_9 : decode prog_10_method_3_code 9 = .ok (.if_icmp .ge 29, 3) := by decide +kernel
theorem d_Words_isUnder_12 : decode prog_10_method_3_code 12 = .ok (.iload_n 2, 1) := by decide +kernel
theorem d_Words_isUnder_13 : decode prog_10_method_3_code 13 = .ok (.invokestatic 28, 3) := by decide +kernel
theorem d_Words_isUnder_16 : decode prog_10_method_3_code 16 = .ok (.ifCond .eq 22, 3) := by decide +kernel
theorem d_Words_isUnder_19 : decode prog_10_method_3_code 19 = .ok (.iload_n 2, 1) := by decide +kernel
theorem d_Words_isUnder_20 : decode prog_10_method_3_code 20 = .ok (.iload_n 1, 1) := by decide +kernel
theorem d_Words_isUnder_21 : decode prog_10_method_3_code 21 = .ok (.if_icmp .ne 5, 3) := by decide +kernel
theorem d_Words_isUnder_24 : decode prog_10_method_3_code 24 = .ok (.iconst 1, 1) := by decide +kernel
theorem d_Words_isUnder_25 : decode prog_10_method_3_code 25 = .ok (.ireturn, 1) := by decide +kernel
theorem d_Words_isUnder_26 : decode prog_10_method_3_code 26 = .ok (.getstatic 25, 3) := by decide +kernel
theorem d_Words_isUnder_29 : decode prog_10_method_3_code 29 = .ok (.iload_n 2, 1) := by decide +kernel
theorem d_Words_isUnder_30 : decode prog_10_method_3_code 30 = .ok (.iaload, 1) := by decide +kernel
theorem d_Words_isUnder_31 : decode prog_10_method_3_code 31 = .ok (.istore_n 2, 1) := by decide +kernel
theorem d_Words_isUnder_32 : decode prog_10_method_3_code 32 = .ok (.iinc 3 1, 3) := by decide +kernel
theorem d_Words_isUnder_35 : decode prog_10_method_3_code 35 = .ok (.goto (-31), 3) := by decide +kernel
theorem d_Words_isUnder_38 : decode prog_10_method_3_code 38 = .ok (.iconst 0, 1) := by decide +kernel
theorem d_Words_isUnder_39 : decode prog_10_method_3_code 39 = .ok (.ireturn, 1) := by decide +kernel
theorem b_Words_isUnder_0 {d : Nat} {x0 : Int32} {x1 : Int32} {h : am_H} {Q : am_Q} (k : am_W (X_Words_isUnder d) 4 [some (.int x0), some (.int x1), some (.int x0), some (.int 0)] [] h Q) : am_W (X_Words_isUnder d) 0 [some (.int x0), some (.int x1), none, none] [] h Q :=
  am_iload_n d_Words_isUnder_0 rfl (i := 0) rfl <|
    am_istore_n (ls' := [some (.int x0), some (.int x1), some (.int x0), none]) d_Words_isUnder_1 rfl (Nat.le_of_ble_eq_true rfl) rfl <|
    am_iconst (v := 0) d_Words_isUnder_2 (by decide) <|
    am_istore_n (ls' := [some (.int x0), some (.int x1), some (.int x0), some (.int 0)]) d_Words_isUnder_3 rfl (Nat.le_of_ble_eq_true rfl) rfl <|
    k
theorem b_Words_isUnder_4 {d : Nat} {x0 : Int32} {x1 : Int32} {x2 : Int32} {x3 : Int32} {h : am_H} {Q : am_Q} (kt : 8 ≤ x3 → am_W (X_Words_isUnder d) 38 [some (.int x0), some (.int x1), some (.int x2), some (.int x3)] [] h Q) (kf : ¬ 8 ≤ x3 → am_W (X_Words_isUnder d) 12 [some (.int x0), some (.int x1), some (.int x2), some (.int x3)] [] h Q) : am_W (X_Words_isUnder d) 4 [some (.int x0), some (.int x1), some (.int x2), some (.int x3)] [] h Q :=
  am_iload_n d_Words_isUnder_4 rfl (i := 3) rfl <|
    am_gets tb_ABOVE w_1150 d_Words_isUnder_5 <|
    am_tlen (v := 8) tb_ABOVE (by decide) d_Words_isUnder_8 <|
    am_icmp_ge (tgt := 38) d_Words_isUnder_9 (by decide) kt kf
theorem b_Words_isUnder_12 {d : Nat} {x0 : Int32} {x1 : Int32} {x2 : Int32} {x3 : Int32} {h : am_H} {Q : am_Q} (k : m_Words_isKind d [.int x2] h (fun r hh => am_W (X_Words_isUnder (d + 1)) 16 [some (.int x0), some (.int x1), some (.int x2), some (.int x3)] (r.toList ++ []) hh Q)) : am_W (X_Words_isUnder (d + 1)) 12 [some (.int x0), some (.int x1), some (.int x2), some (.int x3)] [] h Q :=
  am_iload_n d_Words_isUnder_12 rfl (i := 2) rfl <|
    am_callS (vs := [.int x2]) (st := []) rfl d_Words_isUnder_13 w_1183 w_1148 w_92 w_1149 p_Words_isKind (Nat.le_of_ble_eq_true rfl) (Nat.le_of_ble_eq_true rfl) rfl k
theorem b_Words_isUnder_16 {d : Nat} {x0 : Int32} {x1 : Int32} {x2 : Int32} {x3 : Int32} {y0 : Bool} {h : am_H} {Q : am_Q} (kt : (am_b y0) = 0 → am_W (X_Words_isUnder d) 38 [some (.int x0), some (.int x1), some (.int x2), some (.int x3)] [] h Q) (kf : ¬ (am_b y0) = 0 → am_W (X_Words_isUnder d) 19 [some (.int x0), some (.int x1), some (.int x2), some (.int x3)] [] h Q) : am_W (X_Words_isUnder d) 16 [some (.int x0), some (.int x1), some (.int x2), some (.int x3)] [.int (am_b y0)] h Q :=
  am_if_eq (tgt := 38) d_Words_isUnder_16 (by decide) kt kf
theorem b_Words_isUnder_19 {d : Nat} {x0 : Int32} {x1 : Int32} {x2 : Int32} {x3 : Int32} {h : am_H} {Q : am_Q} (kt : ¬ x2 = x1 → am_W (X_Words_isUnder d) 26 [some (.int x0), some (.int x1), some (.int x2), some (.int x3)] [] h Q) (kf : x2 = x1 → am_W (X_Words_isUnder d) 24 [some (.int x0), some (.int x1), some (.int x2), some (.int x3)] [] h Q) : am_W (X_Words_isUnder d) 19 [some (.int x0), some (.int x1), some (.int x2), some (.int x3)] [] h Q :=
  am_iload_n d_Words_isUnder_19 rfl (i := 2) rfl <|
    am_iload_n d_Words_isUnder_20 rfl (i := 1) rfl <|
    am_icmp_ne (tgt := 26) d_Words_isUnder_21 (by decide) kt kf
theorem b_Words_isUnder_24 {d : Nat} {x0 : Int32} {x1 : Int32} {x2 : Int32} {x3 : Int32} {h : am_H} {Q : am_Q} (q : Q (some (.int 1)) h) : am_W (X_Words_isUnder d) 24 [some (.int x0), some (.int x1), some (.int x2), some (.int x3)] [] h Q :=
  am_iconst (v := 1) d_Words_isUnder_24 (by decide) <|
    am_zret (ty := .boolean) rfl (by decide) d_Words_isUnder_25 q
theorem b_Words_isUnder_26 {d : Nat} {x0 : Int32} {x1 : Int32} {x2 : Int32} {x3 : Int32} {h : am_H} {Q : am_Q} (q0 : vp_in x2 8) (k : am_W (X_Words_isUnder d) 4 [some (.int x0), some (.int x1), some (.int (tv_ABOVE x2)), some (.int (x3 + 1))] [] h Q) : am_W (X_Words_isUnder d) 26 [some (.int x0), some (.int x1), some (.int x2), some (.int x3)] [] h Q :=
  am_gets tb_ABOVE w_1150 d_Words_isUnder_26 <|
    am_iload_n d_Words_isUnder_29 rfl (i := 2) rfl <|
    am_ti (v := tv_ABOVE x2) tb_ABOVE q0 (tv_ABOVE_ok q0) d_Words_isUnder_30 <|
    am_istore_n (ls' := [some (.int x0), some (.int x1), some (.int (tv_ABOVE x2)), some (.int x3)]) d_Words_isUnder_31 rfl (Nat.le_of_ble_eq_true rfl) rfl <|
    am_iinc (v := (x3 + 1)) (ls' := [some (.int x0), some (.int x1), some (.int (tv_ABOVE x2)), some (.int (x3 + 1))]) d_Words_isUnder_32 rfl rfl (Nat.le_of_ble_eq_true rfl) rfl <|
    am_goto (tgt := 4) d_Words_isUnder_35 (by decide) k
theorem b_Words_isUnder_38 {d : Nat} {x0 : Int32} {x1 : Int32} {x2 : Int32} {x3 : Int32} {h : am_H} {Q : am_Q} (q : Q (some (.int 0)) h) : am_W (X_Words_isUnder d) 38 [some (.int x0), some (.int x1), some (.int x2), some (.int x3)] [] h Q :=
  am_iconst (v := 0) d_Words_isUnder_38 (by decide) <|
    am_zret (ty := .boolean) rfl (by decide) d_Words_isUnder_39 q
theorem t_Words_isUnder_38 {d : Nat} {x0 : Int32} {x1 : Int32} {x2 : Int32} {x3 : Int32} {h : am_H} {Q : am_Q} {res : Bool} (e : f_Words_isUnder_38 = some res) (q : Q (some (.int (am_b res))) h) : am_W (X_Words_isUnder (d + 1)) 38 [some (.int x0), some (.int x1), some (.int x2), some (.int x3)] [] h Q :=
  b_Words_isUnder_38 (d := (d + 1)) (q := (am_rZp (v := false) e q))
theorem t_Words_isUnder_26 {d : Nat} {k4 : Int32 → Int32 → Int32 → Option (Bool)} {x0 : Int32} {x1 : Int32} {x2 : Int32} {x3 : Int32} {h : am_H} {Q : am_Q} {res : Bool} (hk4 : ∀ (x0 : Int32) (x1 : Int32) (x2 : Int32) (x3 : Int32), k4 x1 x2 x3 = some res → am_W (X_Words_isUnder (d + 1)) 4 [some (.int x0), some (.int x1), some (.int x2), some (.int x3)] [] h Q) (e : f_Words_isUnder_26 k4 x1 x2 x3 = some res) (q : Q (some (.int (am_b res))) h) : am_W (X_Words_isUnder (d + 1)) 26 [some (.int x0), some (.int x1), some (.int x2), some (.int x3)] [] h Q :=
  b_Words_isUnder_26 (d := (d + 1)) (q0 := (am_okv (am_gd e))) (k := (hk4 _ _ _ _ (am_ga e)))
theorem t_Words_isUnder_24 {d : Nat} {x0 : Int32} {x1 : Int32} {x2 : Int32} {x3 : Int32} {h : am_H} {Q : am_Q} {res : Bool} (e : f_Words_isUnder_24 = some res) (q : Q (some (.int (am_b res))) h) : am_W (X_Words_isUnder (d + 1)) 24 [some (.int x0), some (.int x1), some (.int x2), some (.int x3)] [] h Q :=
  b_Words_isUnder_24 (d := (d + 1)) (q := (am_rZp (v := true) e q))
theorem t_Words_isUnder_19 {d : Nat} {k4 : Int32 → Int32 → Int32 → Option (Bool)} {x0 : Int32} {x1 : Int32} {x2 : Int32} {x3 : Int32} {h : am_H} {Q : am_Q} {res : Bool} (hk4 : ∀ (x0 : Int32) (x1 : Int32) (x2 : Int32) (x3 : Int32), k4 x1 x2 x3 = some res → am_W (X_Words_isUnder (d + 1)) 4 [some (.int x0), some (.int x1), some (.int x2), some (.int x3)] [] h Q) (e : f_Words_isUnder_19 k4 x1 x2 x3 = some res) (q : Q (some (.int (am_b res))) h) : am_W (X_Words_isUnder (d + 1)) 19 [some (.int x0), some (.int x1), some (.int x2), some (.int x3)] [] h Q :=
  b_Words_isUnder_19 (d := (d + 1)) (kt := fun c => (t_Words_isUnder_26 hk4 (am_ife e c) q)) (kf := fun c => (t_Words_isUnder_24 (am_ift e c) q))
theorem t_Words_isUnder_16 {d : Nat} {k4 : Int32 → Int32 → Int32 → Option (Bool)} {x0 : Int32} {x1 : Int32} {x2 : Int32} {x3 : Int32} {y0 : Bool} {h : am_H} {Q : am_Q} {res : Bool} (hk4 : ∀ (x0 : Int32) (x1 : Int32) (x2 : Int32) (x3 : Int32), k4 x1 x2 x3 = some res → am_W (X_Words_isUnder (d + 1)) 4 [some (.int x0), some (.int x1), some (.int x2), some (.int x3)] [] h Q) (e : f_Words_isUnder_16 k4 x1 x2 x3 y0 = some res) (q : Q (some (.int (am_b res))) h) : am_W (X_Words_isUnder (d + 1)) 16 [some (.int x0), some (.int x1), some (.int x2), some (.int x3)] [.int (am_b y0)] h Q :=
  b_Words_isUnder_16 (d := (d + 1)) (kt := fun c => (t_Words_isUnder_38 (am_iff e (am_bz c)) q)) (kf := fun c => (t_Words_isUnder_19 hk4 (am_ift e (am_bn c)) q))
theorem t_Words_isUnder_12 {d : Nat} {k4 : Int32 → Int32 → Int32 → Option (Bool)} {x0 : Int32} {x1 : Int32} {x2 : Int32} {x3 : Int32} {h : am_H} {Q : am_Q} {res : Bool} (hk4 : ∀ (x0 : Int32) (x1 : Int32) (x2 : Int32) (x3 : Int32), k4 x1 x2 x3 = some res → am_W (X_Words_isUnder (d + 1)) 4 [some (.int x0), some (.int x1), some (.int x2), some (.int x3)] [] h Q) (e : f_Words_isUnder_12 k4 x1 x2 x3 = some res) (q : Q (some (.int (am_b res))) h) : am_W (X_Words_isUnder (d + 1)) 12 [some (.int x0), some (.int x1), some (.int x2), some (.int x3)] [] h Q :=
  b_Words_isUnder_12 (d := d) (k := c_Words_isKind (d := d) rfl (t_Words_isUnder_16 hk4 e q))
theorem t_Words_isUnder_4 {d : Nat} {k4 : Int32 → Int32 → Int32 → Option (Bool)} {x0 : Int32} {x1 : Int32} {x2 : Int32} {x3 : Int32} {h : am_H} {Q : am_Q} {res : Bool} (hk4 : ∀ (x0 : Int32) (x1 : Int32) (x2 : Int32) (x3 : Int32), k4 x1 x2 x3 = some res → am_W (X_Words_isUnder (d + 1)) 4 [some (.int x0), some (.int x1), some (.int x2), some (.int x3)] [] h Q) (e : f_Words_isUnder_4 k4 x1 x2 x3 = some res) (q : Q (some (.int (am_b res))) h) : am_W (X_Words_isUnder (d + 1)) 4 [some (.int x0), some (.int x1), some (.int x2), some (.int x3)] [] h Q :=
  b_Words_isUnder_4 (d := (d + 1)) (kt := fun c => (t_Words_isUnder_38 (am_ift e c) q)) (kf := fun c => (t_Words_isUnder_12 hk4 (am_ife e c) q))
theorem t_Words_isUnder_4_l {d : Nat} {h : am_H} {Q : am_Q} {res : Bool} (q : Q (some (.int (am_b res))) h) : ∀ (n : Nat) (x0 : Int32) (x1 : Int32) (x2 : Int32) (x3 : Int32), f_Words_isUnder_4_l n x1 x2 x3 = some res → am_W (X_Words_isUnder (d + 1)) 4 [some (.int x0), some (.int x1), some (.int x2), some (.int x3)] [] h Q := by
  intro n
  induction n with
  | zero => intro x0 x1 x2 x3 e; exact am_nn e
  | succ n ih => intro x0 x1 x2 x3 e; exact t_Words_isUnder_4 (fun x0 x1 x2 x3 e => ih x0 x1 x2 x3  e) e q
theorem t_Words_isUnder_0 {d : Nat} {x0 : Int32} {x1 : Int32} {h : am_H} {Q : am_Q} {res : Bool} (e : f_Words_isUnder x0 x1 = some res) (q : Q (some (.int (am_b res))) h) : am_W (X_Words_isUnder (d + 1)) 0 [some (.int x0), some (.int x1), none, none] [] h Q :=
  b_Words_isUnder_0 (d := (d + 1)) (k := (t_Words_isUnder_4_l q am_fu _ _ _ _ e))
theorem c_Words_isUnder {d : Nat} {x0 : Int32} {x1 : Int32} {h : am_H} {Q : am_Q} {res : Bool} (e : f_Words_isUnder x0 x1 = some res) (q : Q (some (.int (am_b res))) h) : m_Words_isUnder (d + 1) [.int x0, .int x1] h Q :=
  e_Words_isUnder (t_Words_isUnder_0 e q)
theorem d_Club_taken_0 : decode prog_1_method_40_code 0 = .ok (.iload_n 1, 1) := by decide +kernel
theorem d_Club_taken_1 : decode prog_1_method_40_code 1 = .ok (.invokestatic 95, 3) := by decide +kernel
theorem d_Club_taken_4 : decode prog_1_method_40_code 4 = .ok (.ifCond .eq 10, 3) := by decide +kernel
theorem d_Club_taken_7 : decode prog_1_method_40_code 7 = .ok (.iload_n 2, 1) := by decide +kernel
theorem d_Club_taken_8 : decode prog_1_method_40_code 8 = .ok (.invokestatic 314, 3) := by decide +kernel
theorem d_Club_taken_11 : decode prog_1_method_40_code 11 = .ok (.ifCond .ne 5, 3) := by decide +kernel
theorem d_Club_taken_14 : decode prog_1_method_40_code 14 = .ok (.iconst (-1), 1) := by decide +kernel
theorem d_Club_taken_15 : decode prog_1_method_40_code 15 = .ok (.ireturn, 1) := by decide +kernel
theorem d_Club_taken_16 : decode prog_1_method_40_code 16 = .ok (.aload_n 0, 1) := by decide +kernel
theorem d_Club_taken_17 : decode prog_1_method_40_code 17 = .ok (.getfield 75, 3) := by decide +kernel
theorem d_Club_taken_20 : decode prog_1_method_40_code 20 = .ok (.iload_n 1, 1) := by decide +kernel
theorem d_Club_taken_21 : decode prog_1_method_40_code 21 = .ok (.aaload, 1) := by decide +kernel
theorem d_Club_taken_22 : decode prog_1_method_40_code 22 = .ok (.astore_n 3, 1) := by decide +kernel
theorem d_Club_taken_23 : decode prog_1_method_40_code 23 = .ok (.aload_n 3, 1) := by decide +kernel
theorem d_Club_taken_24 : decode prog_1_method_40_code 24 = .ok (.invokevirtual 99, 3) := by decide +kernel
theorem d_Club_taken_27 : decode prog_1_method_40_code 27 = .ok (.ifCond .eq 6, 3) := by decide +kernel
theorem d_Club_taken_30 : decode prog_1_method_40_code 30 = .ok (.bipush (-11), 2) := by decide +kernel
theorem d_Club_taken_32 : decode prog_1_method_40_code 32 = .ok (.ireturn, 1) := by decide +kernel
theorem d_Club_taken_33 : decode prog_1_method_40_code 33 = .ok (.aload_n 3, 1) := by decide +kernel
theorem d_Club_taken_34 : decode prog_1_method_40_code 34 = .ok (.invokevirtual 356, 3) := by decide +kernel
theorem d_Club_taken_37 : decode prog_1_method_40_code 37 = .ok (.ifCond .eq 6, 3) := by decide +kernel
theorem d_Club_taken_40 : decode prog_1_method_40_code 40 = .ok (.bipush (-12), 2) := by decide +kernel
theorem d_Club_taken_42 : decode prog_1_method_40_code 42 = .ok (.ireturn, 1) := by decide +kernel
theorem d_Club_taken_43 : decode prog_1_method_40_code 43 = .ok (.aload_n 0, 1) := by decide +kernel
theorem d_Club_taken_44 : decode prog_1_method_40_code 44 = .ok (.getfield 69, 3) := by decide +kernel
theorem d_Club_taken_47 : decode prog_1_method_40_code 47 = .ok (.aload_n 3, 1) := by decide +kernel
theorem d_Club_taken_48 : decode prog_1_method_40_code 48 = .ok (.invokevirtual 369, 3) := by decide +kernel
theorem d_Club_taken_51 : decode prog_1_method_40_code 51 = .ok (.invokevirtual 372, 3) := by decide +kernel
theorem d_Club_taken_54 : decode prog_1_method_40_code 54 = .ok (.istore 4, 2) := by decide +kernel
theorem d_Club_taken_56 : decode prog_1_method_40_code 56 = .ok (.iload 4, 2) := by decide +kernel
theorem d_Club_taken_58 : decode prog_1_method_40_code 58 = .ok (.iload_n 2, 1) := by decide +kernel
theorem d_Club_taken_59 : decode prog_1_method_40_code 59 = .ok (.invokestatic 375, 3) := by decide +kernel
theorem d_Club_taken_62 : decode prog_1_method_40_code 62 = .ok (.ifCond .eq 8, 3) := by decide +kernel
theorem d_Club_taken_65 : decode prog_1_method_40_code 65 = .ok (.iload 4, 2) := by decide +kernel
theorem d_Club_taken_67 : decode prog_1_method_40_code 67 = .ok (.goto 5, 3) := by decide +kernel
theorem d_Club_taken_70 : decode prog_1_method_40_code 70 = .ok (.bipush (-12), 2) := by decide +kernel
theorem d_Club_taken_72 : decode prog_1_method_40_code 72 = .ok (.ireturn, 1) := by decide +kernel
theorem b_Club_taken_0 {d : Nat} {x1 : Int32} {x2 : Int32} {h : am_H} {Q : am_Q} (k : m_Club_isShelf d [.int x1] h (fun r hh => am_W (X_Club_taken (d + 1)) 4 [some (.ref 0), some (.int x1), some (.int x2), none, none] (r.toList ++ []) hh Q)) : am_W (X_Club_taken (d + 1)) 0 [some (.ref 0), some (.int x1), some (.int x2), none, none] [] h Q :=
  am_iload_n d_Club_taken_0 rfl (i := 1) rfl <|
    am_callS (vs := [.int x1]) (st := []) rfl d_Club_taken_1 w_431 w_432 w_83 w_433 p_Club_isShelf (Nat.le_of_ble_eq_true rfl) (Nat.le_of_ble_eq_true rfl) rfl k
theorem b_Club_taken_4 {d : Nat} {x1 : Int32} {x2 : Int32} {y0 : Bool} {h : am_H} {Q : am_Q} (kt : (am_b y0) = 0 → am_W (X_Club_taken d) 14 [some (.ref 0), some (.int x1), some (.int x2), none, none] [] h Q) (kf : ¬ (am_b y0) = 0 → am_W (X_Club_taken d) 7 [some (.ref 0), some (.int x1), some (.int x2), none, none] [] h Q) : am_W (X_Club_taken d) 4 [some (.ref 0), some (.int x1), some (.int x2), none, none] [.int (am_b y0)] h Q :=
  am_if_eq (tgt := 14) d_Club_taken_4 (by decide) kt kf
theorem b_Club_taken_7 {d : Nat} {x1 : Int32} {x2 : Int32} {h : am_H} {Q : am_Q} (k : m_Words_isKind d [.int x2] h (fun r hh => am_W (X_Club_taken (d + 1)) 11 [some (.ref 0), some (.int x1), some (.int x2), none, none] (r.toList ++ []) hh Q)) : am_W (X_Club_taken (d + 1)) 7 [some (.ref 0), some (.int x1), some (.int x2), none, none] [] h Q :=
  am_iload_n d_Club_taken_7 rfl (i := 2) rfl <|
    am_callS (vs := [.int x2]) (st := []) rfl d_Club_taken_8 w_1147 w_1148 w_92 w_1149 p_Words_isKind (Nat.le_of_ble_eq_true rfl) (Nat.le_of_ble_eq_true rfl) rfl k
theorem b_Club_taken_11 {d : Nat} {x1 : Int32} {x2 : Int32} {y0 : Bool} {h : am_H} {Q : am_Q} (kt : ¬ (am_b y0) = 0 → am_W (X_Club_taken d) 16 [some (.ref 0), some (.int x1), some (.int x2), none, none] [] h Q) (kf : (am_b y0) = 0 → am_W (X_Club_taken d) 14 [some (.ref 0), some (.int x1), some (.int x2), none, none] [] h Q) : am_W (X_Club_taken d) 11 [some (.ref 0), some (.int x1), some (.int x2), none, none] [.int (am_b y0)] h Q :=
  am_if_ne (tgt := 16) d_Club_taken_11 (by decide) kt kf
theorem b_Club_taken_14 {d : Nat} {x1 : Int32} {x2 : Int32} {h : am_H} {Q : am_Q} (q : Q (some (.int (-1))) h) : am_W (X_Club_taken d) 14 [some (.ref 0), some (.int x1), some (.int x2), none, none] [] h Q :=
  am_iconst (v := (-1)) d_Club_taken_14 (by decide) <|
    am_iret rfl d_Club_taken_15 q
theorem b_Club_taken_16 {d : Nat} {x1 : Int32} {x2 : Int32} {h : am_H} {Q : am_Q} (q0 : vp_in x1 6) (k : m_Shelf_isEmpty d [.ref (am_shp x1)] h (fun r hh => am_W (X_Club_taken (d + 1)) 27 [some (.ref 0), some (.int x1), some (.int x2), some (.ref (am_shp x1)), none] (r.toList ++ []) hh Q)) : am_W (X_Club_taken (d + 1)) 16 [some (.ref 0), some (.int x1), some (.int x2), none, none] [] h Q :=
  am_aload_n d_Club_taken_16 rfl (i := 0) rfl <|
    am_getR (ci := 0) (i := 8) rfl rfl rfl (Nat.le_of_ble_eq_true rfl) w_370 d_Club_taken_17 <|
    am_iload_n d_Club_taken_20 rfl (i := 1) rfl <|
    am_aald (q := am_shp x1) rfl q0 (am_shq q0) d_Club_taken_21 <|
    am_astore_n (ls' := [some (.ref 0), some (.int x1), some (.int x2), some (.ref (am_shp x1)), none]) d_Club_taken_22 rfl (Nat.le_of_ble_eq_true rfl) rfl <|
    am_aload_n d_Club_taken_23 rfl (i := 3) rfl <|
    am_callV (vs := []) (st := []) (k := (am_shp x1)) (ci := 9) rfl d_Club_taken_24 rfl (am_shl q0).1 w_434 w_435 w_436 w_93 w_437 p_Shelf_isEmpty (Nat.le_of_ble_eq_true rfl) (Nat.le_of_ble_eq_true rfl) rfl k
theorem b_Club_taken_27 {d : Nat} {x1 : Int32} {x2 : Int32} {a3 : Nat} {y0 : Bool} {h : am_H} {Q : am_Q} (sa3 : am_shf a3) (kt : (am_b y0) = 0 → am_W (X_Club_taken d) 33 [some (.ref 0), some (.int x1), some (.int x2), some (.ref a3), none] [] h Q) (kf : ¬ (am_b y0) = 0 → am_W (X_Club_taken d) 30 [some (.ref 0), some (.int x1), some (.int x2), some (.ref a3), none] [] h Q) : am_W (X_Club_taken d) 27 [some (.ref 0), some (.int x1), some (.int x2), some (.ref a3), none] [.int (am_b y0)] h Q :=
  am_if_eq (tgt := 33) d_Club_taken_27 (by decide) kt kf
theorem b_Club_taken_30 {d : Nat} {x1 : Int32} {x2 : Int32} {a3 : Nat} {h : am_H} {Q : am_Q} (sa3 : am_shf a3) (q : Q (some (.int (-11))) h) : am_W (X_Club_taken d) 30 [some (.ref 0), some (.int x1), some (.int x2), some (.ref a3), none] [] h Q :=
  am_bipush (v := (-11)) d_Club_taken_30 (by decide) <|
    am_iret rfl d_Club_taken_32 q
theorem b_Club_taken_33 {d : Nat} {x1 : Int32} {x2 : Int32} {a3 : Nat} {h : am_H} {Q : am_Q} (sa3 : am_shf a3) (k : m_Shelf_isRow d [.ref a3] h (fun r hh => am_W (X_Club_taken (d + 1)) 37 [some (.ref 0), some (.int x1), some (.int x2), some (.ref a3), none] (r.toList ++ []) hh Q)) : am_W (X_Club_taken (d + 1)) 33 [some (.ref 0), some (.int x1), some (.int x2), some (.ref a3), none] [] h Q :=
  am_aload_n d_Club_taken_33 rfl (i := 3) rfl <|
    am_callV (vs := []) (st := []) (k := a3) (ci := 9) rfl d_Club_taken_34 rfl sa3.1 w_1243 w_1244 w_1245 w_93 w_1246 p_Shelf_isRow (Nat.le_of_ble_eq_true rfl) (Nat.le_of_ble_eq_true rfl) rfl k
theorem b_Club_taken_37 {d : Nat} {x1 : Int32} {x2 : Int32} {a3 : Nat} {y0 : Bool} {h : am_H} {Q : am_Q} (sa3 : am_shf a3) (kt : (am_b y0) = 0 → am_W (X_Club_taken d) 43 [some (.ref 0), some (.int x1), some (.int x2), some (.ref a3), none] [] h Q) (kf : ¬ (am_b y0) = 0 → am_W (X_Club_taken d) 40 [some (.ref 0), some (.int x1), some (.int x2), some (.ref a3), none] [] h Q) : am_W (X_Club_taken d) 37 [some (.ref 0), some (.int x1), some (.int x2), some (.ref a3), none] [.int (am_b y0)] h Q :=
  am_if_eq (tgt := 43) d_Club_taken_37 (by decide) kt kf
theorem b_Club_taken_40 {d : Nat} {x1 : Int32} {x2 : Int32} {a3 : Nat} {h : am_H} {Q : am_Q} (sa3 : am_shf a3) (q : Q (some (.int (-12))) h) : am_W (X_Club_taken d) 40 [some (.ref 0), some (.int x1), some (.int x2), some (.ref a3), none] [] h Q :=
  am_bipush (v := (-12)) d_Club_taken_40 (by decide) <|
    am_iret rfl d_Club_taken_42 q
theorem b_Club_taken_43 {d : Nat} {x1 : Int32} {x2 : Int32} {a3 : Nat} {h : am_H} {Q : am_Q} (sa3 : am_shf a3) (k : m_Shelf_wordHeld d [.ref a3] h (fun r hh => am_W (X_Club_taken (d + 1)) 51 [some (.ref 0), some (.int x1), some (.int x2), some (.ref a3), none] (r.toList ++ [.ref 27]) hh Q)) : am_W (X_Club_taken (d + 1)) 43 [some (.ref 0), some (.int x1), some (.int x2), some (.ref a3), none] [] h Q :=
  am_aload_n d_Club_taken_43 rfl (i := 0) rfl <|
    am_getR (ci := 0) (i := 7) rfl rfl rfl (Nat.le_of_ble_eq_true rfl) w_369 d_Club_taken_44 <|
    am_aload_n d_Club_taken_47 rfl (i := 3) rfl <|
    am_callV (vs := []) (st := [.ref 27]) (k := a3) (ci := 9) rfl d_Club_taken_48 rfl sa3.1 w_1279 w_1280 w_1281 w_93 w_1282 p_Shelf_wordHeld (Nat.le_of_ble_eq_true rfl) (Nat.le_of_ble_eq_true rfl) rfl k
theorem b_Club_taken_51 {d : Nat} {x1 : Int32} {x2 : Int32} {a3 : Nat} {y1 : Int32} {h : am_H} {Q : am_Q} (sa3 : am_shf a3) (k : m_Words_kindOf d [.ref 27, .int y1] h (fun r hh => am_W (X_Club_taken (d + 1)) 54 [some (.ref 0), some (.int x1), some (.int x2), some (.ref a3), none] (r.toList ++ []) hh Q)) : am_W (X_Club_taken (d + 1)) 51 [some (.ref 0), some (.int x1), some (.int x2), some (.ref a3), none] [.int y1, .ref 27] h Q :=
  am_callV (vs := [.int y1]) (st := []) (k := 27) (ci := 8) rfl d_Club_taken_51 rfl rfl w_1283 w_1173 w_1174 w_92 w_1175 p_Words_kindOf (Nat.le_of_ble_eq_true rfl) (Nat.le_of_ble_eq_true rfl) rfl k
theorem b_Club_taken_54 {d : Nat} {x1 : Int32} {x2 : Int32} {a3 : Nat} {y0 : Int32} {h : am_H} {Q : am_Q} (sa3 : am_shf a3) (k : m_Words_isUnder d [.int y0, .int x2] h (fun r hh => am_W (X_Club_taken (d + 1)) 62 [some (.ref 0), some (.int x1), some (.int x2), some (.ref a3), some (.int y0)] (r.toList ++ []) hh Q)) : am_W (X_Club_taken (d + 1)) 54 [some (.ref 0), some (.int x1), some (.int x2), some (.ref a3), none] [.int y0] h Q :=
  am_istore (ls' := [some (.ref 0), some (.int x1), some (.int x2), some (.ref a3), some (.int y0)]) d_Club_taken_54 (Nat.le_of_ble_eq_true rfl) rfl <|
    am_iload d_Club_taken_56 rfl <|
    am_iload_n d_Club_taken_58 rfl (i := 2) rfl <|
    am_callS (vs := [.int y0, .int x2]) (st := []) rfl d_Club_taken_59 w_1284 w_1285 w_92 w_1286 p_Words_isUnder (Nat.le_of_ble_eq_true rfl) (Nat.le_of_ble_eq_true rfl) rfl k
theorem b_Club_taken_62 {d : Nat} {x1 : Int32} {x2 : Int32} {a3 : Nat} {x4 : Int32} {y0 : Bool} {h : am_H} {Q : am_Q} (sa3 : am_shf a3) (kt : (am_b y0) = 0 → am_W (X_Club_taken d) 70 [some (.ref 0), some (.int x1), some (.int x2), some (.ref a3), some (.int x4)] [] h Q) (kf : ¬ (am_b y0) = 0 → am_W (X_Club_taken d) 65 [some (.ref 0), some (.int x1), some (.int x2), some (.ref a3), some (.int x4)] [] h Q) : am_W (X_Club_taken d) 62 [some (.ref 0), some (.int x1), some (.int x2), some (.ref a3), some (.int x4)] [.int (am_b y0)] h Q :=
  am_if_eq (tgt := 70) d_Club_taken_62 (by decide) kt kf
theorem b_Club_taken_65 {d : Nat} {x1 : Int32} {x2 : Int32} {a3 : Nat} {x4 : Int32} {h : am_H} {Q : am_Q} (sa3 : am_shf a3) (q : Q (some (.int x4)) h) : am_W (X_Club_taken d) 65 [some (.ref 0), some (.int x1), some (.int x2), some (.ref a3), some (.int x4)] [] h Q :=
  am_iload d_Club_taken_65 rfl <|
    am_goto (tgt := 72) d_Club_taken_67 (by decide) <|
    am_iret rfl d_Club_taken_72 q
theorem b_Club_taken_70 {d : Nat} {x1 : Int32} {x2 : Int32} {a3 : Nat} {x4 : Int32} {h : am_H} {Q : am_Q} (sa3 : am_shf a3) (q : Q (some (.int (-12))) h) : am_W (X_Club_taken d) 70 [some (.ref 0), some (.int x1), some (.int x2), some (.ref a3), some (.int x4)] [] h Q :=
  am_bipush (v := (-12)) d_Club_taken_70 (by decide) <|
    am_iret rfl d_Club_taken_72 q
theorem t_Club_taken_14 {d : Nat} {x1 : Int32} {x2 : Int32} {h : am_H} {Q : am_Q} {res : Int32} (e : f_Club_taken_14 h = some res) (q : Q (some (.int res)) h) : am_W (X_Club_taken (d + 2)) 14 [some (.ref 0), some (.int x1), some (.int x2), none, none] [] h Q :=
  b_Club_taken_14 (d := (d + 2)) (q := (am_rIp (v := (-1)) e q))
theorem t_Club_taken_70 {d : Nat} {x1 : Int32} {x2 : Int32} {a3 : Nat} {x4 : Int32} {h : am_H} {Q : am_Q} {res : Int32} (sa3 : am_shf a3) (e : f_Club_taken_70 h = some res) (q : Q (some (.int res)) h) : am_W (X_Club_taken (d + 2)) 70 [some (.ref 0), some (.int x1), some (.int x2), some (.ref a3), some (.int x4)] [] h Q :=
  b_Club_taken_70 (d := (d + 2)) (sa3 := sa3) (q := (am_rIp (v := (-12)) e q))
theorem t_Club_taken_65 {d : Nat} {x1 : Int32} {x2 : Int32} {a3 : Nat} {x4 : Int32} {h : am_H} {Q : am_Q} {res : Int32} (sa3 : am_shf a3) (e : f_Club_taken_65 h x4 = some res) (q : Q (some (.int res)) h) : am_W (X_Club_taken (d + 2)) 65 [some (.ref 0), some (.int x1), some (.int x2), some (.ref a3), some (.int x4)] [] h Q :=
  b_Club_taken_65 (d := (d + 2)) (sa3 := sa3) (q := (am_rIp (v := x4) e q))
theorem t_Club_taken_62 {d : Nat} {x1 : Int32} {x2 : Int32} {a3 : Nat} {x4 : Int32} {y0 : Bool} {h : am_H} {Q : am_Q} {res : Int32} (sa3 : am_shf a3) (e : f_Club_taken_62 h x4 y0 = some res) (q : Q (some (.int res)) h) : am_W (X_Club_taken (d + 2)) 62 [some (.ref 0), some (.int x1), some (.int x2), some (.ref a3), some (.int x4)] [.int (am_b y0)] h Q :=
  b_Club_taken_62 (d := (d + 2)) (sa3 := sa3) (kt := fun c => (t_Club_taken_70 sa3 (am_iff e (am_bz c)) q)) (kf := fun c => (t_Club_taken_65 sa3 (am_ift e (am_bn c)) q))
theorem t_Club_taken_54 {d : Nat} {x1 : Int32} {x2 : Int32} {a3 : Nat} {y0 : Int32} {h : am_H} {Q : am_Q} {res : Int32} (sa3 : am_shf a3) (e : f_Club_taken_54 h x2 y0 = some res) (q : Q (some (.int res)) h) : am_W (X_Club_taken (d + 2)) 54 [some (.ref 0), some (.int x1), some (.int x2), some (.ref a3), none] [.int y0] h Q :=
  (am_bd e).elim fun p hp => b_Club_taken_54 (d := (d + 1)) (sa3 := sa3) (k := c_Words_isUnder (d := d) hp.1 (t_Club_taken_62 sa3 hp.2 q))
theorem t_Club_taken_51 {d : Nat} {x1 : Int32} {x2 : Int32} {a3 : Nat} {y1 : Int32} {h : am_H} {Q : am_Q} {res : Int32} (sa3 : am_shf a3) (e : f_Club_taken_51 h x2 y1 = some res) (q : Q (some (.int res)) h) : am_W (X_Club_taken (d + 2)) 51 [some (.ref 0), some (.int x1), some (.int x2), some (.ref a3), none] [.int y1, .ref 27] h Q :=
  (am_bd e).elim fun p hp => b_Club_taken_51 (d := (d + 1)) (sa3 := sa3) (k := c_Words_kindOf (d := d) hp.1 (t_Club_taken_54 sa3 hp.2 q))
theorem t_Club_taken_43 {d : Nat} {x1 : Int32} {x2 : Int32} {a3 : Nat} {h : am_H} {Q : am_Q} {res : Int32} (sa3 : am_shf a3) (e : f_Club_taken_43 h x2 a3 = some res) (q : Q (some (.int res)) h) : am_W (X_Club_taken (d + 2)) 43 [some (.ref 0), some (.int x1), some (.int x2), some (.ref a3), none] [] h Q :=
  b_Club_taken_43 (d := (d + 1)) (sa3 := sa3) (k := c_Shelf_wordHeld (d := d + 1) sa3 rfl (t_Club_taken_51 sa3 e q))
theorem t_Club_taken_40 {d : Nat} {x1 : Int32} {x2 : Int32} {a3 : Nat} {h : am_H} {Q : am_Q} {res : Int32} (sa3 : am_shf a3) (e : f_Club_taken_40 h = some res) (q : Q (some (.int res)) h) : am_W (X_Club_taken (d + 2)) 40 [some (.ref 0), some (.int x1), some (.int x2), some (.ref a3), none] [] h Q :=
  b_Club_taken_40 (d := (d + 2)) (sa3 := sa3) (q := (am_rIp (v := (-12)) e q))
theorem t_Club_taken_37 {d : Nat} {x1 : Int32} {x2 : Int32} {a3 : Nat} {y0 : Bool} {h : am_H} {Q : am_Q} {res : Int32} (sa3 : am_shf a3) (e : f_Club_taken_37 h x2 a3 y0 = some res) (q : Q (some (.int res)) h) : am_W (X_Club_taken (d + 2)) 37 [some (.ref 0), some (.int x1), some (.int x2), some (.ref a3), none] [.int (am_b y0)] h Q :=
  b_Club_taken_37 (d := (d + 2)) (sa3 := sa3) (kt := fun c => (t_Club_taken_43 sa3 (am_iff e (am_bz c)) q)) (kf := fun c => (t_Club_taken_40 sa3 (am_ift e (am_bn c)) q))
theorem t_Club_taken_33 {d : Nat} {x1 : Int32} {x2 : Int32} {a3 : Nat} {h : am_H} {Q : am_Q} {res : Int32} (sa3 : am_shf a3) (e : f_Club_taken_33 h x2 a3 = some res) (q : Q (some (.int res)) h) : am_W (X_Club_taken (d + 2)) 33 [some (.ref 0), some (.int x1), some (.int x2), some (.ref a3), none] [] h Q :=
  b_Club_taken_33 (d := (d + 1)) (sa3 := sa3) (k := c_Shelf_isRow (d := d + 1) sa3 rfl (t_Club_taken_37 sa3 e q))
theorem t_Club_taken_30 {d : Nat} {x1 : Int32} {x2 : Int32} {a3 : Nat} {h : am_H} {Q : am_Q} {res : Int32} (sa3 : am_shf a3) (e : f_Club_taken_30 h = some res) (q : Q (some (.int res)) h) : am_W (X_Club_taken (d + 2)) 30 [some (.ref 0), some (.int x1), some (.int x2), some (.ref a3), none] [] h Q :=
  b_Club_taken_30 (d := (d + 2)) (sa3 := sa3) (q := (am_rIp (v := (-11)) e q))
theorem t_Club_taken_27 {d : Nat} {x1 : Int32} {x2 : Int32} {a3 : Nat} {y0 : Bool} {h : am_H} {Q : am_Q} {res : Int32} (sa3 : am_shf a3) (e : f_Club_taken_27 h x2 a3 y0 = some res) (q : Q (some (.int res)) h) : am_W (X_Club_taken (d + 2)) 27 [some (.ref 0), some (.int x1), some (.int x2), some (.ref a3), none] [.int (am_b y0)] h Q :=
  b_Club_taken_27 (d := (d + 2)) (sa3 := sa3) (kt := fun c => (t_Club_taken_33 sa3 (am_iff e (am_bz c)) q)) (kf := fun c => (t_Club_taken_30 sa3 (am_ift e (am_bn c)) q))
theorem t_Club_taken_16 {d : Nat} {x1 : Int32} {x2 : Int32} {h : am_H} {Q : am_Q} {res : Int32} (e : f_Club_taken_16 h x1 x2 = some res) (q : Q (some (.int res)) h) : am_W (X_Club_taken (d + 2)) 16 [some (.ref 0), some (.int x1), some (.int x2), none, none] [] h Q :=
  b_Club_taken_16 (d := (d + 1)) (q0 := (am_okv (am_gd e))) (k := c_Shelf_isEmpty (d := d + 1) (am_shl (am_okv (am_gd e))) rfl (t_Club_taken_27 (am_shl (am_okv (am_gd e))) (am_ga e) q))
theorem t_Club_taken_11 {d : Nat} {x1 : Int32} {x2 : Int32} {y0 : Bool} {h : am_H} {Q : am_Q} {res : Int32} (e : f_Club_taken_11 h x1 x2 y0 = some res) (q : Q (some (.int res)) h) : am_W (X_Club_taken (d + 2)) 11 [some (.ref 0), some (.int x1), some (.int x2), none, none] [.int (am_b y0)] h Q :=
  b_Club_taken_11 (d := (d + 2)) (kt := fun c => (t_Club_taken_16 (am_ift e (am_bn c)) q)) (kf := fun c => (t_Club_taken_14 (am_iff e (am_bz c)) q))
theorem t_Club_taken_7 {d : Nat} {x1 : Int32} {x2 : Int32} {h : am_H} {Q : am_Q} {res : Int32} (e : f_Club_taken_7 h x1 x2 = some res) (q : Q (some (.int res)) h) : am_W (X_Club_taken (d + 2)) 7 [some (.ref 0), some (.int x1), some (.int x2), none, none] [] h Q :=
  b_Club_taken_7 (d := (d + 1)) (k := c_Words_isKind (d := d + 1) rfl (t_Club_taken_11 e q))
theorem t_Club_taken_4 {d : Nat} {x1 : Int32} {x2 : Int32} {y0 : Bool} {h : am_H} {Q : am_Q} {res : Int32} (e : f_Club_taken_4 h x1 x2 y0 = some res) (q : Q (some (.int res)) h) : am_W (X_Club_taken (d + 2)) 4 [some (.ref 0), some (.int x1), some (.int x2), none, none] [.int (am_b y0)] h Q :=
  b_Club_taken_4 (d := (d + 2)) (kt := fun c => (t_Club_taken_14 (am_iff e (am_bz c)) q)) (kf := fun c => (t_Club_taken_7 (am_ift e (am_bn c)) q))
theorem t_Club_taken_0 {d : Nat} {x1 : Int32} {x2 : Int32} {h : am_H} {Q : am_Q} {res : Int32} (e : f_Club_taken h x1 x2 = some res) (q : Q (some (.int res)) h) : am_W (X_Club_taken (d + 2)) 0 [some (.ref 0), some (.int x1), some (.int x2), none, none] [] h Q :=
  b_Club_taken_0 (d := (d + 1)) (k := c_Club_isShelf (d := d + 1) rfl (t_Club_taken_4 e q))
theorem c_Club_taken {d : Nat} {x1 : Int32} {x2 : Int32} {h : am_H} {Q : am_Q} {res : Int32} (e : f_Club_taken h x1 x2 = some res) (q : Q (some (.int res)) h) : m_Club_taken (d + 2) [.ref 0, .int x1, .int x2] h Q :=
  e_Club_taken (t_Club_taken_0 e q)
theorem d_Hole_greenCells_0 : decode prog_5_method_22_code 0 = .ok (.iconst 0, 1) := by decide +kernel
theorem d_Hole_greenCells_1 : decode prog_5_method_22_code 1 = .ok (.istore_n 1, 1) := by decide +kernel
theorem d_Hole_greenCells_2 : decode prog_5_method_22_code 2 = .ok (.iconst 0, 1) := by decide +kernel
theorem d_Hole_greenCells_3 : decode prog_5_method_22_code 3 = .ok (.istore_n 2, 1) := by decide +kernel
theorem d_Hole_greenCells_4 : decode prog_5_method_22_code 4 = .ok (.iload_n 2, 1) := by decide +kernel
theorem d_Hole_greenCells_5 : decode prog_5_method_22_code 5 = .ok (.bipush 31, 2) := by decide +kernel
theorem d_Hole_greenCells_7 : decode prog_5_method_22_code 7 = .ok (.if_icmp .ge 25, 3) := by decide +kernel
theorem d_Hole_greenCells_10 : decode prog_5_method_22_code 10 = .ok (.iload_n 1, 1) := by decide +kernel
theorem d_Hole_greenCells_11 : decode prog_5_method_22_code 11 = .ok (.aload_n 0, 1) := by decide +kernel
theorem d_Hole_greenCells_12 : decode prog_5_method_22_code 12 = .ok (.iload_n 2, 1) := by decide +kernel
theorem d_Hole_greenCells_13 : decode prog_5_method_22_code 13 = .ok (.invokevirtual 101, 3) := by decide +kernel
theorem d_Hole_greenCells_16 : decode prog_5_method_22_code 16 = .ok (.ifCond .eq 7, 3) := by decide +kernel
theorem d_Hole_greenCells_19 : decode prog_5_method_22_code 19 = .ok (.iconst 1, 1) := by decide +kernel
theorem d_Hole_greenCells_20 : decode prog_5_method_22_code 20 = .ok (.goto 4, 3) := by decide +kernel
theorem d_Hole_greenCells_23 : decode prog_5_method_22_code 23 = .ok (.iconst 0, 1) := by decide +kernel
theorem d_Hole_greenCells_24 : decode prog_5_method_22_code 24 = .ok (.iadd, 1) := by decide +kernel
theorem d_Hole_greenCells_25 : decode prog_5_method_22_code 25 = .ok (.istore_n 1, 1) := by decide +kernel
theorem d_Hole_greenCells_26 : decode prog_5_method_22_code 26 = .ok (.iinc 2 1, 3) := by decide +kernel
theorem d_Hole_greenCells_29 : decode prog_5_method_22_code 29 = .ok (.goto (-25), 3) := by decide +kernel
theorem d_Hole_greenCells_32 : decode prog_5_method_22_code 32 = .ok (.iload_n 1, 1) := by decide +kernel
theorem d_Hole_greenCells_33 : decode prog_5_method_22_code 33 = .ok (.ireturn, 1) := by decide +kernel
theorem b_Hole_greenCells_0 {d : Nat} {h : am_H} {Q : am_Q} (k : am_W (X_Hole_greenCells d) 4 [some (.ref 1), some (.int 0), some (.int 0)] [] h Q) : am_W (X_Hole_greenCells d) 0 [some (.ref 1), none, none] [] h Q :=
  am_iconst (v := 0) d_Hole_greenCells_0 (by decide) <|
    am_istore_n (ls' := [some (.ref 1), some (.int 0), none]) d_Hole_greenCells_1 rfl (Nat.le_of_ble_eq_true rfl) rfl <|
    am_iconst (v := 0) d_Hole_greenCells_2 (by decide) <|
    am_istore_n (ls' := [some (.ref 1), some (.int 0), some (.int 0)]) d_Hole_greenCells_3 rfl (Nat.le_of_ble_eq_true rfl) rfl <|
    k
theorem b_Hole_greenCells_4 {d : Nat} {x1 : Int32} {x2 : Int32} {h : am_H} {Q : am_Q} (kt : 31 ≤ x2 → am_W (X_Hole_greenCells d) 32 [some (.ref 1), some (.int x1), some (.int x2)] [] h Q) (kf : ¬ 31 ≤ x2 → am_W (X_Hole_greenCells d) 10 [some (.ref 1), some (.int x1), some (.int x2)] [] h Q) : am_W (X_Hole_greenCells d) 4 [some (.ref 1), some (.int x1), some (.int x2)] [] h Q :=
  am_iload_n d_Hole_greenCells_4 rfl (i := 2) rfl <|
    am_bipush (v := 31) d_Hole_greenCells_5 (by decide) <|
    am_icmp_ge (tgt := 32) d_Hole_greenCells_7 (by decide) kt kf
theorem b_Hole_greenCells_10 {d : Nat} {x1 : Int32} {x2 : Int32} {h : am_H} {Q : am_Q} (k : m_Hole_isGreen d [.ref 1, .int x2] h (fun r hh => am_W (X_Hole_greenCells (d + 1)) 16 [some (.ref 1), some (.int x1), some (.int x2)] (r.toList ++ [.int x1]) hh Q)) : am_W (X_Hole_greenCells (d + 1)) 10 [some (.ref 1), some (.int x1), some (.int x2)] [] h Q :=
  am_iload_n d_Hole_greenCells_10 rfl (i := 1) rfl <|
    am_aload_n d_Hole_greenCells_11 rfl (i := 0) rfl <|
    am_iload_n d_Hole_greenCells_12 rfl (i := 2) rfl <|
    am_callV (vs := [.int x2]) (st := [.int x1]) (k := 1) (ci := 1) rfl d_Hole_greenCells_13 rfl rfl w_674 w_675 w_676 w_84 w_677 p_Hole_isGreen (Nat.le_of_ble_eq_true rfl) (Nat.le_of_ble_eq_true rfl) rfl k
theorem b_Hole_greenCells_16 {d : Nat} {x1 : Int32} {x2 : Int32} {y1 : Bool} {y0 : Int32} {h : am_H} {Q : am_Q} (kt : (am_b y1) = 0 → am_W (X_Hole_greenCells d) 23 [some (.ref 1), some (.int x1), some (.int x2)] [.int y0] h Q) (kf : ¬ (am_b y1) = 0 → am_W (X_Hole_greenCells d) 19 [some (.ref 1), some (.int x1), some (.int x2)] [.int y0] h Q) : am_W (X_Hole_greenCells d) 16 [some (.ref 1), some (.int x1), some (.int x2)] [.int (am_b y1), .int y0] h Q :=
  am_if_eq (tgt := 23) d_Hole_greenCells_16 (by decide) kt kf
theorem b_Hole_greenCells_19 {d : Nat} {x1 : Int32} {x2 : Int32} {y0 : Int32} {h : am_H} {Q : am_Q} (k : am_W (X_Hole_greenCells d) 24 [some (.ref 1), some (.int x1), some (.int x2)] [.int 1, .int y0] h Q) : am_W (X_Hole_greenCells d) 19 [some (.ref 1), some (.int x1), some (.int x2)] [.int y0] h Q :=
  am_iconst (v := 1) d_Hole_greenCells_19 (by decide) <|
    am_goto (tgt := 24) d_Hole_greenCells_20 (by decide) k
theorem b_Hole_greenCells_23 {d : Nat} {x1 : Int32} {x2 : Int32} {y0 : Int32} {h : am_H} {Q : am_Q} (k : am_W (X_Hole_greenCells d) 24 [some (.ref 1), some (.int x1), some (.int x2)] [.int 0, .int y0] h Q) : am_W (X_Hole_greenCells d) 23 [some (.ref 1), some (.int x1), some (.int x2)] [.int y0] h Q :=
  am_iconst (v := 0) d_Hole_greenCells_23 (by decide) <|
    k
theorem b_Hole_greenCells_24 {d : Nat} {x1 : Int32} {x2 : Int32} {y1 : Int32} {y0 : Int32} {h : am_H} {Q : am_Q} (k : am_W (X_Hole_greenCells d) 4 [some (.ref 1), some (.int (y0 + y1)), some (.int (x2 + 1))] [] h Q) : am_W (X_Hole_greenCells d) 24 [some (.ref 1), some (.int x1), some (.int x2)] [.int y1, .int y0] h Q :=
  am_iadd d_Hole_greenCells_24 <|
    am_istore_n (ls' := [some (.ref 1), some (.int (y0 + y1)), some (.int x2)]) d_Hole_greenCells_25 rfl (Nat.le_of_ble_eq_true rfl) rfl <|
    am_iinc (v := (x2 + 1)) (ls' := [some (.ref 1), some (.int (y0 + y1)), some (.int (x2 + 1))]) d_Hole_greenCells_26 rfl rfl (Nat.le_of_ble_eq_true rfl) rfl <|
    am_goto (tgt := 4) d_Hole_greenCells_29 (by decide) k
theorem b_Hole_greenCells_32 {d : Nat} {x1 : Int32} {x2 : Int32} {h : am_H} {Q : am_Q} (q : Q (some (.int x1)) h) : am_W (X_Hole_greenCells d) 32 [some (.ref 1), some (.int x1), some (.int x2)] [] h Q :=
  am_iload_n d_Hole_greenCells_32 rfl (i := 1) rfl <|
    am_iret rfl d_Hole_greenCells_33 q
theorem t_Hole_greenCells_32 {d : Nat} {x1 : Int32} {x2 : Int32} {h : am_H} {Q : am_Q} {res : Int32} (e : f_Hole_greenCells_32 h x1 = some res) (q : Q (some (.int res)) h) : am_W (X_Hole_greenCells (d + 2)) 32 [some (.ref 1), some (.int x1), some (.int x2)] [] h Q :=
  b_Hole_greenCells_32 (d := (d + 2)) (q := (am_rIp (v := x1) e q))
theorem t_Hole_greenCells_24 {d : Nat} {k4 : Int32 → Int32 → Option (Int32)} {x1 : Int32} {x2 : Int32} {y1 : Int32} {y0 : Int32} {h : am_H} {Q : am_Q} {res : Int32} (hk4 : ∀ (x1 : Int32) (x2 : Int32), k4 x1 x2 = some res → am_W (X_Hole_greenCells (d + 2)) 4 [some (.ref 1), some (.int x1), some (.int x2)] [] h Q) (e : f_Hole_greenCells_24 k4 h x2 y1 y0 = some res) (q : Q (some (.int res)) h) : am_W (X_Hole_greenCells (d + 2)) 24 [some (.ref 1), some (.int x1), some (.int x2)] [.int y1, .int y0] h Q :=
  b_Hole_greenCells_24 (d := (d + 2)) (k := (hk4 _ _ e))
theorem t_Hole_greenCells_23 {d : Nat} {k4 : Int32 → Int32 → Option (Int32)} {x1 : Int32} {x2 : Int32} {y0 : Int32} {h : am_H} {Q : am_Q} {res : Int32} (hk4 : ∀ (x1 : Int32) (x2 : Int32), k4 x1 x2 = some res → am_W (X_Hole_greenCells (d + 2)) 4 [some (.ref 1), some (.int x1), some (.int x2)] [] h Q) (e : f_Hole_greenCells_23 k4 h x2 y0 = some res) (q : Q (some (.int res)) h) : am_W (X_Hole_greenCells (d + 2)) 23 [some (.ref 1), some (.int x1), some (.int x2)] [.int y0] h Q :=
  b_Hole_greenCells_23 (d := (d + 2)) (k := (t_Hole_greenCells_24 hk4 e q))
theorem t_Hole_greenCells_19 {d : Nat} {k4 : Int32 → Int32 → Option (Int32)} {x1 : Int32} {x2 : Int32} {y0 : Int32} {h : am_H} {Q : am_Q} {res : Int32} (hk4 : ∀ (x1 : Int32) (x2 : Int32), k4 x1 x2 = some res → am_W (X_Hole_greenCells (d + 2)) 4 [some (.ref 1), some (.int x1), some (.int x2)] [] h Q) (e : f_Hole_greenCells_19 k4 h x2 y0 = some res) (q : Q (some (.int res)) h) : am_W (X_Hole_greenCells (d + 2)) 19 [some (.ref 1), some (.int x1), some (.int x2)] [.int y0] h Q :=
  b_Hole_greenCells_19 (d := (d + 2)) (k := (t_Hole_greenCells_24 hk4 e q))
theorem t_Hole_greenCells_16 {d : Nat} {k4 : Int32 → Int32 → Option (Int32)} {x1 : Int32} {x2 : Int32} {y1 : Bool} {y0 : Int32} {h : am_H} {Q : am_Q} {res : Int32} (hk4 : ∀ (x1 : Int32) (x2 : Int32), k4 x1 x2 = some res → am_W (X_Hole_greenCells (d + 2)) 4 [some (.ref 1), some (.int x1), some (.int x2)] [] h Q) (e : f_Hole_greenCells_16 k4 h x2 y1 y0 = some res) (q : Q (some (.int res)) h) : am_W (X_Hole_greenCells (d + 2)) 16 [some (.ref 1), some (.int x1), some (.int x2)] [.int (am_b y1), .int y0] h Q :=
  b_Hole_greenCells_16 (d := (d + 2)) (kt := fun c => (t_Hole_greenCells_23 hk4 (am_iff e (am_bz c)) q)) (kf := fun c => (t_Hole_greenCells_19 hk4 (am_ift e (am_bn c)) q))
theorem t_Hole_greenCells_10 {d : Nat} {k4 : Int32 → Int32 → Option (Int32)} {x1 : Int32} {x2 : Int32} {h : am_H} {Q : am_Q} {res : Int32} (hk4 : ∀ (x1 : Int32) (x2 : Int32), k4 x1 x2 = some res → am_W (X_Hole_greenCells (d + 2)) 4 [some (.ref 1), some (.int x1), some (.int x2)] [] h Q) (e : f_Hole_greenCells_10 k4 h x1 x2 = some res) (q : Q (some (.int res)) h) : am_W (X_Hole_greenCells (d + 2)) 10 [some (.ref 1), some (.int x1), some (.int x2)] [] h Q :=
  (am_bd e).elim fun p hp => b_Hole_greenCells_10 (d := (d + 1)) (k := c_Hole_isGreen (d := d) hp.1 (t_Hole_greenCells_16 hk4 hp.2 q))
theorem t_Hole_greenCells_4 {d : Nat} {k4 : Int32 → Int32 → Option (Int32)} {x1 : Int32} {x2 : Int32} {h : am_H} {Q : am_Q} {res : Int32} (hk4 : ∀ (x1 : Int32) (x2 : Int32), k4 x1 x2 = some res → am_W (X_Hole_greenCells (d + 2)) 4 [some (.ref 1), some (.int x1), some (.int x2)] [] h Q) (e : f_Hole_greenCells_4 k4 h x1 x2 = some res) (q : Q (some (.int res)) h) : am_W (X_Hole_greenCells (d + 2)) 4 [some (.ref 1), some (.int x1), some (.int x2)] [] h Q :=
  b_Hole_greenCells_4 (d := (d + 2)) (kt := fun c => (t_Hole_greenCells_32 (am_ift e c) q)) (kf := fun c => (t_Hole_greenCells_10 hk4 (am_ife e c) q))
theorem t_Hole_greenCells_4_l {d : Nat} {h : am_H} {Q : am_Q} {res : Int32} (q : Q (some (.int res)) h) : ∀ (n : Nat) (x1 : Int32) (x2 : Int32), f_Hole_greenCells_4_l h n x1 x2 = some res → am_W (X_Hole_greenCells (d + 2)) 4 [some (.ref 1), some (.int x1), some (.int x2)] [] h Q := by
  intro n
  induction n with
  | zero => intro x1 x2 e; exact am_nn e
  | succ n ih => intro x1 x2 e; exact t_Hole_greenCells_4 (fun x1 x2 e => ih x1 x2  e) e q
theorem t_Hole_greenCells_0 {d : Nat} {h : am_H} {Q : am_Q} {res : Int32} (e : f_Hole_greenCells h = some res) (q : Q (some (.int res)) h) : am_W (X_Hole_greenCells (d + 2)) 0 [some (.ref 1), none, none] [] h Q :=
  b_Hole_greenCells_0 (d := (d + 2)) (k := (t_Hole_greenCells_4_l q am_fu _ _ e))
theorem c_Hole_greenCells {d : Nat} {h : am_H} {Q : am_Q} {res : Int32} (e : f_Hole_greenCells h = some res) (q : Q (some (.int res)) h) : m_Hole_greenCells (d + 2) [.ref 1] h Q :=
  e_Hole_greenCells (t_Hole_greenCells_0 e q)
theorem d_Hole_waterCells_0 : decode prog_5_method_23_code 0 = .ok (.iconst 0, 1) := by decide +kernel
theorem d_Hole_waterCells_1 : decode prog_5_method_23_code 1 = .ok (.istore_n 1, 1) := by decide +kernel
theorem d_Hole_waterCells_2 : decode prog_5_method_23_code 2 = .ok (.iconst 0, 1) := by decide +kernel
theorem d_Hole_waterCells_3 : decode prog_5_method_23_code 3 = .ok (.istore_n 2, 1) := by decide +kernel
theorem d_Hole_waterCells_4 : decode prog_5_method_23_code 4 = .ok (.iload_n 2, 1) := by decide +kernel
theorem d_Hole_waterCells_5 : decode prog_5_method_23_code 5 = .ok (.bipush 31, 2) := by decide +kernel
theorem d_Hole_waterCells_7 : decode prog_5_method_23_code 7 = .ok (.if_icmp .ge 25, 3) := by decide +kernel
theorem d_Hole_waterCells_10 : decode prog_5_method_23_code 10 = .ok (.iload_n 1, 1) := by decide +kernel
theorem d_Hole_waterCells_11 : decode prog_5_method_23_code 11 = .ok (.aload_n 0, 1) := by decide +kernel
theorem d_Hole_waterCells_12 : decode prog_5_method_23_code 12 = .ok (.iload_n 2, 1) := by decide +kernel
theorem d_Hole_waterCells_13 : decode prog_5_method_23_code 13 = .ok (.invokevirtual 104, 3) := by decide +kernel
theorem d_Hole_waterCells_16 : decode prog_5_method_23_code 16 = .ok (.ifCond .eq 7, 3) := by decide +kernel
theorem d_Hole_waterCells_19 : decode prog_5_method_23_code 19 = .ok (.iconst 1, 1) := by decide +kernel
theorem d_Hole_waterCells_20 : decode prog_5_method_23_code 20 = .ok (.goto 4, 3) := by decide +kernel
theorem d_Hole_waterCells_23 : decode prog_5_method_23_code 23 = .ok (.iconst 0, 1) := by decide +kernel
theorem d_Hole_waterCells_24 : decode prog_5_method_23_code 24 = .ok (.iadd, 1) := by decide +kernel
theorem d_Hole_waterCells_25 : decode prog_5_method_23_code 25 = .ok (.istore_n 1, 1) := by decide +kernel
theorem d_Hole_waterCells_26 : decode prog_5_method_23_code 26 = .ok (.iinc 2 1, 3) := by decide +kernel
theorem d_Hole_waterCells_29 : decode prog_5_method_23_code 29 = .ok (.goto (-25), 3) := by decide +kernel
theorem d_Hole_waterCells_32 : decode prog_5_method_23_code 32 = .ok (.iload_n 1, 1) := by decide +kernel
theorem d_Hole_waterCells_33 : decode prog_5_method_23_code 33 = .ok (.ireturn, 1) := by decide +kernel
theorem b_Hole_waterCells_0 {d : Nat} {h : am_H} {Q : am_Q} (k : am_W (X_Hole_waterCells d) 4 [some (.ref 1), some (.int 0), some (.int 0)] [] h Q) : am_W (X_Hole_waterCells d) 0 [some (.ref 1), none, none] [] h Q :=
  am_iconst (v := 0) d_Hole_waterCells_0 (by decide) <|
    am_istore_n (ls' := [some (.ref 1), some (.int 0), none]) d_Hole_waterCells_1 rfl (Nat.le_of_ble_eq_true rfl) rfl <|
    am_iconst (v := 0) d_Hole_waterCells_2 (by decide) <|
    am_istore_n (ls' := [some (.ref 1), some (.int 0), some (.int 0)]) d_Hole_waterCells_3 rfl (Nat.le_of_ble_eq_true rfl) rfl <|
    k
theorem b_Hole_waterCells_4 {d : Nat} {x1 : Int32} {x2 : Int32} {h : am_H} {Q : am_Q} (kt : 31 ≤ x2 → am_W (X_Hole_waterCells d) 32 [some (.ref 1), some (.int x1), some (.int x2)] [] h Q) (kf : ¬ 31 ≤ x2 → am_W (X_Hole_waterCells d) 10 [some (.ref 1), some (.int x1), some (.int x2)] [] h Q) : am_W (X_Hole_waterCells d) 4 [some (.ref 1), some (.int x1), some (.int x2)] [] h Q :=
  am_iload_n d_Hole_waterCells_4 rfl (i := 2) rfl <|
    am_bipush (v := 31) d_Hole_waterCells_5 (by decide) <|
    am_icmp_ge (tgt := 32) d_Hole_waterCells_7 (by decide) kt kf
theorem b_Hole_waterCells_10 {d : Nat} {x1 : Int32} {x2 : Int32} {h : am_H} {Q : am_Q} (k : m_Hole_isWater d [.ref 1, .int x2] h (fun r hh => am_W (X_Hole_waterCells (d + 1)) 16 [some (.ref 1), some (.int x1), some (.int x2)] (r.toList ++ [.int x1]) hh Q)) : am_W (X_Hole_waterCells (d + 1)) 10 [some (.ref 1), some (.int x1), some (.int x2)] [] h Q :=
  am_iload_n d_Hole_waterCells_10 rfl (i := 1) rfl <|
    am_aload_n d_Hole_waterCells_11 rfl (i := 0) rfl <|
    am_iload_n d_Hole_waterCells_12 rfl (i := 2) rfl <|
    am_callV (vs := [.int x2]) (st := [.int x1]) (k := 1) (ci := 1) rfl d_Hole_waterCells_13 rfl rfl w_703 w_704 w_705 w_84 w_706 p_Hole_isWater (Nat.le_of_ble_eq_true rfl) (Nat.le_of_ble_eq_true rfl) rfl k
theorem b_Hole_waterCells_16 {d : Nat} {x1 : Int32} {x2 : Int32} {y1 : Bool} {y0 : Int32} {h : am_H} {Q : am_Q} (kt : (am_b y1) = 0 → am_W (X_Hole_waterCells d) 23 [some (.ref 1), some (.int x1), some (.int x2)] [.int y0] h Q) (kf : ¬ (am_b y1) = 0 → am_W (X_Hole_waterCells d) 19 [some (.ref 1), some (.int x1), some (.int x2)] [.int y0] h Q) : am_W (X_Hole_waterCells d) 16 [some (.ref 1), some (.int x1), some (.int x2)] [.int (am_b y1), .int y0] h Q :=
  am_if_eq (tgt := 23) d_Hole_waterCells_16 (by decide) kt kf
theorem b_Hole_waterCells_19 {d : Nat} {x1 : Int32} {x2 : Int32} {y0 : Int32} {h : am_H} {Q : am_Q} (k : am_W (X_Hole_waterCells d) 24 [some (.ref 1), some (.int x1), some (.int x2)] [.int 1, .int y0] h Q) : am_W (X_Hole_waterCells d) 19 [some (.ref 1), some (.int x1), some (.int x2)] [.int y0] h Q :=
  am_iconst (v := 1) d_Hole_waterCells_19 (by decide) <|
    am_goto (tgt := 24) d_Hole_waterCells_20 (by decide) k
theorem b_Hole_waterCells_23 {d : Nat} {x1 : Int32} {x2 : Int32} {y0 : Int32} {h : am_H} {Q : am_Q} (k : am_W (X_Hole_waterCells d) 24 [some (.ref 1), some (.int x1), some (.int x2)] [.int 0, .int y0] h Q) : am_W (X_Hole_waterCells d) 23 [some (.ref 1), some (.int x1), some (.int x2)] [.int y0] h Q :=
  am_iconst (v := 0) d_Hole_waterCells_23 (by decide) <|
    k
theorem b_Hole_waterCells_24 {d : Nat} {x1 : Int32} {x2 : Int32} {y1 : Int32} {y0 : Int32} {h : am_H} {Q : am_Q} (k : am_W (X_Hole_waterCells d) 4 [some (.ref 1), some (.int (y0 + y1)), some (.int (x2 + 1))] [] h Q) : am_W (X_Hole_waterCells d) 24 [some (.ref 1), some (.int x1), some (.int x2)] [.int y1, .int y0] h Q :=
  am_iadd d_Hole_waterCells_24 <|
    am_istore_n (ls' := [some (.ref 1), some (.int (y0 + y1)), some (.int x2)]) d_Hole_waterCells_25 rfl (Nat.le_of_ble_eq_true rfl) rfl <|
    am_iinc (v := (x2 + 1)) (ls' := [some (.ref 1), some (.int (y0 + y1)), some (.int (x2 + 1))]) d_Hole_waterCells_26 rfl rfl (Nat.le_of_ble_eq_true rfl) rfl <|
    am_goto (tgt := 4) d_Hole_waterCells_29 (by decide) k
theorem b_Hole_waterCells_32 {d : Nat} {x1 : Int32} {x2 : Int32} {h : am_H} {Q : am_Q} (q : Q (some (.int x1)) h) : am_W (X_Hole_waterCells d) 32 [some (.ref 1), some (.int x1), some (.int x2)] [] h Q :=
  am_iload_n d_Hole_waterCells_32 rfl (i := 1) rfl <|
    am_iret rfl d_Hole_waterCells_33 q
theorem t_Hole_waterCells_32 {d : Nat} {x1 : Int32} {x2 : Int32} {h : am_H} {Q : am_Q} {res : Int32} (e : f_Hole_waterCells_32 h x1 = some res) (q : Q (some (.int res)) h) : am_W (X_Hole_waterCells (d + 2)) 32 [some (.ref 1), some (.int x1), some (.int x2)] [] h Q :=
  b_Hole_waterCells_32 (d := (d + 2)) (q := (am_rIp (v := x1) e q))
theorem t_Hole_waterCells_24 {d : Nat} {k4 : Int32 → Int32 → Option (Int32)} {x1 : Int32} {x2 : Int32} {y1 : Int32} {y0 : Int32} {h : am_H} {Q : am_Q} {res : Int32} (hk4 : ∀ (x1 : Int32) (x2 : Int32), k4 x1 x2 = some res → am_W (X_Hole_waterCells (d + 2)) 4 [some (.ref 1), some (.int x1), some (.int x2)] [] h Q) (e : f_Hole_waterCells_24 k4 h x2 y1 y0 = some res) (q : Q (some (.int res)) h) : am_W (X_Hole_waterCells (d + 2)) 24 [some (.ref 1), some (.int x1), some (.int x2)] [.int y1, .int y0] h Q :=
  b_Hole_waterCells_24 (d := (d + 2)) (k := (hk4 _ _ e))
theorem t_Hole_waterCells_23 {d : Nat} {k4 : Int32 → Int32 → Option (Int32)} {x1 : Int32} {x2 : Int32} {y0 : Int32} {h : am_H} {Q : am_Q} {res : Int32} (hk4 : ∀ (x1 : Int32) (x2 : Int32), k4 x1 x2 = some res → am_W (X_Hole_waterCells (d + 2)) 4 [some (.ref 1), some (.int x1), some (.int x2)] [] h Q) (e : f_Hole_waterCells_23 k4 h x2 y0 = some res) (q : Q (some (.int res)) h) : am_W (X_Hole_waterCells (d + 2)) 23 [some (.ref 1), some (.int x1), some (.int x2)] [.int y0] h Q :=
  b_Hole_waterCells_23 (d := (d + 2)) (k := (t_Hole_waterCells_24 hk4 e q))
theorem t_Hole_waterCells_19 {d : Nat} {k4 : Int32 → Int32 → Option (Int32)} {x1 : Int32} {x2 : Int32} {y0 : Int32} {h : am_H} {Q : am_Q} {res : Int32} (hk4 : ∀ (x1 : Int32) (x2 : Int32), k4 x1 x2 = some res → am_W (X_Hole_waterCells (d + 2)) 4 [some (.ref 1), some (.int x1), some (.int x2)] [] h Q) (e : f_Hole_waterCells_19 k4 h x2 y0 = some res) (q : Q (some (.int res)) h) : am_W (X_Hole_waterCells (d + 2)) 19 [some (.ref 1), some (.int x1), some (.int x2)] [.int y0] h Q :=
  b_Hole_waterCells_19 (d := (d + 2)) (k := (t_Hole_waterCells_24 hk4 e q))
theorem t_Hole_waterCells_16 {d : Nat} {k4 : Int32 → Int32 → Option (Int32)} {x1 : Int32} {x2 : Int32} {y1 : Bool} {y0 : Int32} {h : am_H} {Q : am_Q} {res : Int32} (hk4 : ∀ (x1 : Int32) (x2 : Int32), k4 x1 x2 = some res → am_W (X_Hole_waterCells (d + 2)) 4 [some (.ref 1), some (.int x1), some (.int x2)] [] h Q) (e : f_Hole_waterCells_16 k4 h x2 y1 y0 = some res) (q : Q (some (.int res)) h) : am_W (X_Hole_waterCells (d + 2)) 16 [some (.ref 1), some (.int x1), some (.int x2)] [.int (am_b y1), .int y0] h Q :=
  b_Hole_waterCells_16 (d := (d + 2)) (kt := fun c => (t_Hole_waterCells_23 hk4 (am_iff e (am_bz c)) q)) (kf := fun c => (t_Hole_waterCells_19 hk4 (am_ift e (am_bn c)) q))
theorem t_Hole_waterCells_10 {d : Nat} {k4 : Int32 → Int32 → Option (Int32)} {x1 : Int32} {x2 : Int32} {h : am_H} {Q : am_Q} {res : Int32} (hk4 : ∀ (x1 : Int32) (x2 : Int32), k4 x1 x2 = some res → am_W (X_Hole_waterCells (d + 2)) 4 [some (.ref 1), some (.int x1), some (.int x2)] [] h Q) (e : f_Hole_waterCells_10 k4 h x1 x2 = some res) (q : Q (some (.int res)) h) : am_W (X_Hole_waterCells (d + 2)) 10 [some (.ref 1), some (.int x1), some (.int x2)] [] h Q :=
  (am_bd e).elim fun p hp => b_Hole_waterCells_10 (d := (d + 1)) (k := c_Hole_isWater (d := d) hp.1 (t_Hole_waterCells_16 hk4 hp.2 q))
theorem t_Hole_waterCells_4 {d : Nat} {k4 : Int32 → Int32 → Option (Int32)} {x1 : Int32} {x2 : Int32} {h : am_H} {Q : am_Q} {res : Int32} (hk4 : ∀ (x1 : Int32) (x2 : Int32), k4 x1 x2 = some res → am_W (X_Hole_waterCells (d + 2)) 4 [some (.ref 1), some (.int x1), some (.int x2)] [] h Q) (e : f_Hole_waterCells_4 k4 h x1 x2 = some res) (q : Q (some (.int res)) h) : am_W (X_Hole_waterCells (d + 2)) 4 [some (.ref 1), some (.int x1), some (.int x2)] [] h Q :=
  b_Hole_waterCells_4 (d := (d + 2)) (kt := fun c => (t_Hole_waterCells_32 (am_ift e c) q)) (kf := fun c => (t_Hole_waterCells_10 hk4 (am_ife e c) q))
theorem t_Hole_waterCells_4_l {d : Nat} {h : am_H} {Q : am_Q} {res : Int32} (q : Q (some (.int res)) h) : ∀ (n : Nat) (x1 : Int32) (x2 : Int32), f_Hole_waterCells_4_l h n x1 x2 = some res → am_W (X_Hole_waterCells (d + 2)) 4 [some (.ref 1), some (.int x1), some (.int x2)] [] h Q := by
  intro n
  induction n with
  | zero => intro x1 x2 e; exact am_nn e
  | succ n ih => intro x1 x2 e; exact t_Hole_waterCells_4 (fun x1 x2 e => ih x1 x2  e) e q
theorem t_Hole_waterCells_0 {d : Nat} {h : am_H} {Q : am_Q} {res : Int32} (e : f_Hole_waterCells h = some res) (q : Q (some (.int res)) h) : am_W (X_Hole_waterCells (d + 2)) 0 [some (.ref 1), none, none] [] h Q :=
  b_Hole_waterCells_0 (d := (d + 2)) (k := (t_Hole_waterCells_4_l q am_fu _ _ e))
theorem c_Hole_waterCells {d : Nat} {h : am_H} {Q : am_Q} {res : Int32} (e : f_Hole_waterCells h = some res) (q : Q (some (.int res)) h) : m_Hole_waterCells (d + 2) [.ref 1] h Q :=
  e_Hole_waterCells (t_Hole_waterCells_0 e q)
theorem d_Law_tapeLength_0 : decode prog_6_method_3_code 0 = .ok (.aload_n 0, 1) := by decide +kernel
theorem d_Law_tapeLength_1 : decode prog_6_method_3_code 1 = .ok (.getfield 27, 3) := by decide +kernel
theorem d_Law_tapeLength_4 : decode prog_6_method_3_code 4 = .ok (.ireturn, 1) := by decide +kernel
theorem b_Law_tapeLength_0 {d : Nat} {h : am_H} {Q : am_Q} (q : Q (some (.int (h.1 6 5))) h) : am_W (X_Law_tapeLength d) 0 [some (.ref 6)] [] h Q :=
  am_aload_n d_Law_tapeLength_0 rfl (i := 0) rfl <|
    am_getI (ci := 2) (i := 5) rfl rfl rfl (Nat.le_of_ble_eq_true rfl) w_165 d_Law_tapeLength_1 <|
    am_iret rfl d_Law_tapeLength_4 q
theorem t_Law_tapeLength_0 {d : Nat} {h : am_H} {Q : am_Q} {res : Int32} (e : f_Law_tapeLength h = res) (q : Q (some (.int res)) h) : am_W (X_Law_tapeLength d) 0 [some (.ref 6)] [] h Q :=
  b_Law_tapeLength_0 (d := d) (q := (am_rIt (v := (h.1 6 5)) e q))
theorem c_Law_tapeLength {d : Nat} {h : am_H} {Q : am_Q} {res : Int32} (e : f_Law_tapeLength h = res) (q : Q (some (.int res)) h) : m_Law_tapeLength d [.ref 6] h Q :=
  e_Law_tapeLength (t_Law_tapeLength_0 e q)
theorem d_Words_ranInAll_0 : decode prog_10_method_9_code 0 = .ok (.aload_n 0, 1) := by decide +kernel
theorem d_Words_ranInAll_1 : decode prog_10_method_9_code 1 = .ok (.getfield 22, 3) := by decide +kernel
theorem d_Words_ranInAll_4 : decode prog_10_method_9_code 4 = .ok (.ireturn, 1) := by decide +kernel
theorem b_Words_ranInAll_0 {d : Nat} {h : am_H} {Q : am_Q} (q : Q (some (.int (h.1 27 3))) h) : am_W (X_Words_ranInAll d) 0 [some (.ref 27)] [] h Q :=
  am_aload_n d_Words_ranInAll_0 rfl (i := 0) rfl <|
    am_getI (ci := 8) (i := 3) rfl rfl rfl (Nat.le_of_ble_eq_true rfl) w_332 d_Words_ranInAll_1 <|
    am_iret rfl d_Words_ranInAll_4 q
theorem t_Words_ranInAll_0 {d : Nat} {h : am_H} {Q : am_Q} {res : Int32} (e : f_Words_ranInAll h = res) (q : Q (some (.int res)) h) : am_W (X_Words_ranInAll d) 0 [some (.ref 27)] [] h Q :=
  b_Words_ranInAll_0 (d := d) (q := (am_rIt (v := (h.1 27 3)) e q))
theorem c_Words_ranInAll {d : Nat} {h : am_H} {Q : am_Q} {res : Int32} (e : f_Words_ranInAll h = res) (q : Q (some (.int res)) h) : m_Words_ranInAll d [.ref 27] h Q :=
  e_Words_ranInAll (t_Words_ranInAll_0 e q)
theorem d_Words_wordsHeld_0 : decode prog_10_method_6_code 0 = .ok (.aload_n 0, 1) := by decide +kernel
theorem d_Words_wordsHeld_1 : decode prog_10_method_6_code 1 = .ok (.getfield 18, 3) := by decide +kernel
theorem d_Words_wordsHeld_4 : decode prog_10_method_6_code 4 = .ok (.ireturn, 1) := by decide +kernel
theorem b_Words_wordsHeld_0 {d : Nat} {h : am_H} {Q : am_Q} (q : Q (some (.int (h.1 27 2))) h) : am_W (X_Words_wordsHeld d) 0 [some (.ref 27)] [] h Q :=
  am_aload_n d_Words_wordsHeld_0 rfl (i := 0) rfl <|
    am_getI (ci := 8) (i := 2) rfl rfl rfl (Nat.le_of_ble_eq_true rfl) w_331 d_Words_wordsHeld_1 <|
    am_iret rfl d_Words_wordsHeld_4 q
theorem t_Words_wordsHeld_0 {d : Nat} {h : am_H} {Q : am_Q} {res : Int32} (e : f_Words_wordsHeld h = res) (q : Q (some (.int res)) h) : am_W (X_Words_wordsHeld d) 0 [some (.ref 27)] [] h Q :=
  b_Words_wordsHeld_0 (d := d) (q := (am_rIt (v := (h.1 27 2)) e q))
theorem c_Words_wordsHeld {d : Nat} {h : am_H} {Q : am_Q} {res : Int32} (e : f_Words_wordsHeld h = res) (q : Q (some (.int res)) h) : m_Words_wordsHeld d [.ref 27] h Q :=
  e_Words_wordsHeld (t_Words_wordsHeld_0 e q)
theorem d_Club_count_0 : decode prog_1_method_41_code 0 = .ok (.iload_n 1, 1) := by decide +kernel
theorem d_Club_count_1 : decode prog_1_method_41_code 1 = .ok (.tableswitch 99 0 6 #[43, 51, 59, 67, 75, 83, 91], 43) := by decide +kernel
theorem d_Club_count_44 : decode prog_1_method_41_code 44 = .ok (.aload_n 0, 1) := by decide +kernel
theorem d_Club_count_45 : decode prog_1_method_41_code 45 = .ok (.getfield 12, 3) := by decide +kernel
theorem d_Club_count_48 : decode prog_1_method_41_code 48 = .ok (.invokevirtual 378, 3) := by decide +kernel
theorem d_Club_count_51 : decode prog_1_method_41_code 51 = .ok (.ireturn, 1) := by decide +kernel
theorem d_Club_count_52 : decode prog_1_method_41_code 52 = .ok (.aload_n 0, 1) := by decide +kernel
theorem d_Club_count_53 : decode prog_1_method_41_code 53 = .ok (.getfield 12, 3) := by decide +kernel
theorem d_Club_count_56 : decode prog_1_method_41_code 56 = .ok (.invokevirtual 381, 3) := by decide +kernel
theorem d_Club_count_59 : decode prog_1_method_41_code 59 = .ok (.ireturn, 1) := by decide +kernel
theorem d_Club_count_60 : decode prog_1_method_41_code 60 = .ok (.aload_n 0, 1) := by decide +kernel
theorem d_Club_count_61 : decode prog_1_method_41_code 61 = .ok (.getfield 12, 3) := by decide +kernel
theorem d_Club_count_64 : decode prog_1_method_41_code 64 = .ok (.invokevirtual 384, 3) := by decide +kernel
theorem d_Club_count_67 : decode prog_1_method_41_code 67 = .ok (.ireturn, 1) := by decide +kernel
theorem d_Club_count_68 : decode prog_1_method_41_code 68 = .ok (.aload_n 0, 1) := by decide +kernel
theorem d_Club_count_69 : decode prog_1_method_41_code 69 = .ok (.getfield 21, 3) := by decide +kernel
theorem d_Club_count_72 : decode prog_1_method_41_code 72 = .ok (.invokevirtual 387, 3) := by decide +kernel
theorem d_Club_count_75 : decode prog_1_method_41_code 75 = .ok (.ireturn, 1) := by decide +kernel
theorem d_Club_count_76 : decode prog_1_method_41_code 76 = .ok (.aload_n 0, 1) := by decide +kernel
theorem d_Club_count_77 : decode prog_1_method_41_code 77 = .ok (.getfield 62, 3) := by decide +kernel
theorem d_Club_count_80 : decode prog_1_method_41_code 80 = .ok (.invokevirtual 302, 3) := by decide +kernel
theorem d_Club_count_83 : decode prog_1_method_41_code 83 = .ok (.ireturn, 1) := by decide +kernel
theorem d_Club_count_84 : decode prog_1_method_41_code 84 = .ok (.aload_n 0, 1) := by decide +kernel
theorem d_Club_count_85 : decode prog_1_method_41_code 85 = .ok (.getfield 69, 3) := by decide +kernel
theorem d_Club_count_88 : decode prog_1_method_41_code 88 = .ok (.invokevirtual 390, 3) := by decide +kernel
theorem d_Club_count_91 : decode prog_1_method_41_code 91 = .ok (.ireturn, 1) := by decide +kernel
theorem d_Club_count_92 : decode prog_1_method_41_code 92 = .ok (.aload_n 0, 1) := by decide +kernel
theorem d_Club_count_93 : decode prog_1_method_41_code 93 = .ok (.getfield 69, 3) := by decide +kernel
theorem d_Club_count_96 : decode prog_1_method_41_code 96 = .ok (.invokevirtual 393, 3) := by decide +kernel
theorem d_Club_count_99 : decode prog_1_method_41_code 99 = .ok (.ireturn, 1) := by decide +kernel
theorem d_Club_count_100 : decode prog_1_method_41_code 100 = .ok (.iconst (-1), 1) := by decide +kernel
theorem d_Club_count_101 : decode prog_1_method_41_code 101 = .ok (.ireturn, 1) := by decide +kernel
theorem b_Club_count_0 {d : Nat} {x1 : Int32} {h : am_H} {Q : am_Q} (k0 : x1 = 0 → am_W (X_Club_count d) 44 [some (.ref 0), some (.int x1)] [] h Q) (k1 : x1 = 1 → am_W (X_Club_count d) 52 [some (.ref 0), some (.int x1)] [] h Q) (k2 : x1 = 2 → am_W (X_Club_count d) 60 [some (.ref 0), some (.int x1)] [] h Q) (k3 : x1 = 3 → am_W (X_Club_count d) 68 [some (.ref 0), some (.int x1)] [] h Q) (k4 : x1 = 4 → am_W (X_Club_count d) 76 [some (.ref 0), some (.int x1)] [] h Q) (k5 : x1 = 5 → am_W (X_Club_count d) 84 [some (.ref 0), some (.int x1)] [] h Q) (k6 : x1 = 6 → am_W (X_Club_count d) 92 [some (.ref 0), some (.int x1)] [] h Q) (kd : ¬ x1 = 0 → ¬ x1 = 1 → ¬ x1 = 2 → ¬ x1 = 3 → ¬ x1 = 4 → ¬ x1 = 5 → ¬ x1 = 6 → am_W (X_Club_count d) 100 [some (.ref 0), some (.int x1)] [] h Q) : am_W (X_Club_count d) 0 [some (.ref 0), some (.int x1)] [] h Q := by
  refine am_iload_n d_Club_count_0 rfl (i := 1) rfl ?_
  by_cases e0 : (x1 : Int32).toInt < 0 ∨ 6 < (x1 : Int32).toInt
  · exact am_tableOut (tgt := 100) d_Club_count_1 e0 (by decide) (kd (fun e => by rw [e] at e0; revert e0; decide) (fun e => by rw [e] at e0; revert e0; decide) (fun e => by rw [e] at e0; revert e0; decide) (fun e => by rw [e] at e0; revert e0; decide) (fun e => by rw [e] at e0; revert e0; decide) (fun e => by rw [e] at e0; revert e0; decide) (fun e => by rw [e] at e0; revert e0; decide))
  by_cases e1 : x1 = 0
  · exact am_tableIn (tgt := 44) (off := 43) d_Club_count_1 (fun e => e0 (Or.inl e)) (fun e => e0 (Or.inr e)) (by rw [e1]; decide +kernel) (by decide) (k0 e1)
  by_cases e2 : x1 = 1
  · exact am_tableIn (tgt := 52) (off := 51) d_Club_count_1 (fun e => e0 (Or.inl e)) (fun e => e0 (Or.inr e)) (by rw [e2]; decide +kernel) (by decide) (k1 e2)
  by_cases e3 : x1 = 2
  · exact am_tableIn (tgt := 60) (off := 59) d_Club_count_1 (fun e => e0 (Or.inl e)) (fun e => e0 (Or.inr e)) (by rw [e3]; decide +kernel) (by decide) (k2 e3)
  by_cases e4 : x1 = 3
  · exact am_tableIn (tgt := 68) (off := 67) d_Club_count_1 (fun e => e0 (Or.inl e)) (fun e => e0 (Or.inr e)) (by rw [e4]; decide +kernel) (by decide) (k3 e4)
  by_cases e5 : x1 = 4
  · exact am_tableIn (tgt := 76) (off := 75) d_Club_count_1 (fun e => e0 (Or.inl e)) (fun e => e0 (Or.inr e)) (by rw [e5]; decide +kernel) (by decide) (k4 e5)
  by_cases e6 : x1 = 5
  · exact am_tableIn (tgt := 84) (off := 83) d_Club_count_1 (fun e => e0 (Or.inl e)) (fun e => e0 (Or.inr e)) (by rw [e6]; decide +kernel) (by decide) (k5 e6)
  by_cases e7 : x1 = 6
  · exact am_tableIn (tgt := 92) (off := 91) d_Club_count_1 (fun e => e0 (Or.inl e)) (fun e => e0 (Or.inr e)) (by rw [e7]; decide +kernel) (by decide) (k6 e7)
  exfalso
  simp only [← Int32.toInt_inj] at e1 e2 e3 e4 e5 e6 e7
  simp only [Int32.reduceToInt] at e1 e2 e3 e4 e5 e6 e7
  omega
theorem b_Club_count_44 {d : Nat} {x1 : Int32} {h : am_H} {Q : am_Q} (k : m_Hole_clubsHeld d [.ref 1] h (fun r hh => am_W (X_Club_count (d + 1)) 51 [some (.ref 0), some (.int x1)] (r.toList ++ []) hh Q)) : am_W (X_Club_count (d + 1)) 44 [some (.ref 0), some (.int x1)] [] h Q :=
  am_aload_n d_Club_count_44 rfl (i := 0) rfl <|
    am_getR (ci := 0) (i := 0) rfl rfl rfl (Nat.le_of_ble_eq_true rfl) w_362 d_Club_count_45 <|
    am_callV (vs := []) (st := []) (k := 1) (ci := 1) rfl d_Club_count_48 rfl rfl w_1291 w_789 w_790 w_84 w_791 p_Hole_clubsHeld (Nat.le_of_ble_eq_true rfl) (Nat.le_of_ble_eq_true rfl) rfl k
theorem b_Club_count_51 {d : Nat} {x1 : Int32} {y0 : Int32} {h : am_H} {Q : am_Q} (q : Q (some (.int y0)) h) : am_W (X_Club_count d) 51 [some (.ref 0), some (.int x1)] [.int y0] h Q :=
  am_iret rfl d_Club_count_51 q
theorem b_Club_count_52 {d : Nat} {x1 : Int32} {h : am_H} {Q : am_Q} (k : m_Hole_greenCells d [.ref 1] h (fun r hh => am_W (X_Club_count (d + 1)) 59 [some (.ref 0), some (.int x1)] (r.toList ++ []) hh Q)) : am_W (X_Club_count (d + 1)) 52 [some (.ref 0), some (.int x1)] [] h Q :=
  am_aload_n d_Club_count_52 rfl (i := 0) rfl <|
    am_getR (ci := 0) (i := 0) rfl rfl rfl (Nat.le_of_ble_eq_true rfl) w_362 d_Club_count_53 <|
    am_callV (vs := []) (st := []) (k := 1) (ci := 1) rfl d_Club_count_56 rfl rfl w_1292 w_1293 w_1294 w_84 w_1295 p_Hole_greenCells (Nat.le_of_ble_eq_true rfl) (Nat.le_of_ble_eq_true rfl) rfl k
theorem b_Club_count_59 {d : Nat} {x1 : Int32} {y0 : Int32} {h : am_H} {Q : am_Q} (q : Q (some (.int y0)) h) : am_W (X_Club_count d) 59 [some (.ref 0), some (.int x1)] [.int y0] h Q :=
  am_iret rfl d_Club_count_59 q
theorem b_Club_count_60 {d : Nat} {x1 : Int32} {h : am_H} {Q : am_Q} (k : m_Hole_waterCells d [.ref 1] h (fun r hh => am_W (X_Club_count (d + 1)) 67 [some (.ref 0), some (.int x1)] (r.toList ++ []) hh Q)) : am_W (X_Club_count (d + 1)) 60 [some (.ref 0), some (.int x1)] [] h Q :=
  am_aload_n d_Club_count_60 rfl (i := 0) rfl <|
    am_getR (ci := 0) (i := 0) rfl rfl rfl (Nat.le_of_ble_eq_true rfl) w_362 d_Club_count_61 <|
    am_callV (vs := []) (st := []) (k := 1) (ci := 1) rfl d_Club_count_64 rfl rfl w_1296 w_1297 w_1298 w_84 w_1299 p_Hole_waterCells (Nat.le_of_ble_eq_true rfl) (Nat.le_of_ble_eq_true rfl) rfl k
theorem b_Club_count_67 {d : Nat} {x1 : Int32} {y0 : Int32} {h : am_H} {Q : am_Q} (q : Q (some (.int y0)) h) : am_W (X_Club_count d) 67 [some (.ref 0), some (.int x1)] [.int y0] h Q :=
  am_iret rfl d_Club_count_67 q
theorem b_Club_count_68 {d : Nat} {x1 : Int32} {h : am_H} {Q : am_Q} (k : m_Law_tapeLength d [.ref 6] h (fun r hh => am_W (X_Club_count (d + 1)) 75 [some (.ref 0), some (.int x1)] (r.toList ++ []) hh Q)) : am_W (X_Club_count (d + 1)) 68 [some (.ref 0), some (.int x1)] [] h Q :=
  am_aload_n d_Club_count_68 rfl (i := 0) rfl <|
    am_getR (ci := 0) (i := 1) rfl rfl rfl (Nat.le_of_ble_eq_true rfl) w_363 d_Club_count_69 <|
    am_callV (vs := []) (st := []) (k := 6) (ci := 2) rfl d_Club_count_72 rfl rfl w_1300 w_1301 w_1302 w_86 w_1303 p_Law_tapeLength (Nat.le_of_ble_eq_true rfl) (Nat.le_of_ble_eq_true rfl) rfl k
theorem b_Club_count_75 {d : Nat} {x1 : Int32} {y0 : Int32} {h : am_H} {Q : am_Q} (q : Q (some (.int y0)) h) : am_W (X_Club_count d) 75 [some (.ref 0), some (.int x1)] [.int y0] h Q :=
  am_iret rfl d_Club_count_75 q
theorem b_Club_count_76 {d : Nat} {x1 : Int32} {h : am_H} {Q : am_Q} (k : m_Changes_toUndo d [.ref 22] h (fun r hh => am_W (X_Club_count (d + 1)) 83 [some (.ref 0), some (.int x1)] (r.toList ++ []) hh Q)) : am_W (X_Club_count (d + 1)) 76 [some (.ref 0), some (.int x1)] [] h Q :=
  am_aload_n d_Club_count_76 rfl (i := 0) rfl <|
    am_getR (ci := 0) (i := 6) rfl rfl rfl (Nat.le_of_ble_eq_true rfl) w_368 d_Club_count_77 <|
    am_callV (vs := []) (st := []) (k := 22) (ci := 7) rfl d_Club_count_80 rfl rfl w_1123 w_1124 w_1125 w_91 w_1126 p_Changes_toUndo (Nat.le_of_ble_eq_true rfl) (Nat.le_of_ble_eq_true rfl) rfl k
theorem b_Club_count_83 {d : Nat} {x1 : Int32} {y0 : Int32} {h : am_H} {Q : am_Q} (q : Q (some (.int y0)) h) : am_W (X_Club_count d) 83 [some (.ref 0), some (.int x1)] [.int y0] h Q :=
  am_iret rfl d_Club_count_83 q
theorem b_Club_count_84 {d : Nat} {x1 : Int32} {h : am_H} {Q : am_Q} (k : m_Words_wordsHeld d [.ref 27] h (fun r hh => am_W (X_Club_count (d + 1)) 91 [some (.ref 0), some (.int x1)] (r.toList ++ []) hh Q)) : am_W (X_Club_count (d + 1)) 84 [some (.ref 0), some (.int x1)] [] h Q :=
  am_aload_n d_Club_count_84 rfl (i := 0) rfl <|
    am_getR (ci := 0) (i := 7) rfl rfl rfl (Nat.le_of_ble_eq_true rfl) w_369 d_Club_count_85 <|
    am_callV (vs := []) (st := []) (k := 27) (ci := 8) rfl d_Club_count_88 rfl rfl w_1304 w_1305 w_1306 w_92 w_1307 p_Words_wordsHeld (Nat.le_of_ble_eq_true rfl) (Nat.le_of_ble_eq_true rfl) rfl k
theorem b_Club_count_91 {d : Nat} {x1 : Int32} {y0 : Int32} {h : am_H} {Q : am_Q} (q : Q (some (.int y0)) h) : am_W (X_Club_count d) 91 [some (.ref 0), some (.int x1)] [.int y0] h Q :=
  am_iret rfl d_Club_count_91 q
theorem b_Club_count_92 {d : Nat} {x1 : Int32} {h : am_H} {Q : am_Q} (k : m_Words_ranInAll d [.ref 27] h (fun r hh => am_W (X_Club_count (d + 1)) 99 [some (.ref 0), some (.int x1)] (r.toList ++ []) hh Q)) : am_W (X_Club_count (d + 1)) 92 [some (.ref 0), some (.int x1)] [] h Q :=
  am_aload_n d_Club_count_92 rfl (i := 0) rfl <|
    am_getR (ci := 0) (i := 7) rfl rfl rfl (Nat.le_of_ble_eq_true rfl) w_369 d_Club_count_93 <|
    am_callV (vs := []) (st := []) (k := 27) (ci := 8) rfl d_Club_count_96 rfl rfl w_1308 w_1309 w_1310 w_92 w_1311 p_Words_ranInAll (Nat.le_of_ble_eq_true rfl) (Nat.le_of_ble_eq_true rfl) rfl k
theorem b_Club_count_99 {d : Nat} {x1 : Int32} {y0 : Int32} {h : am_H} {Q : am_Q} (q : Q (some (.int y0)) h) : am_W (X_Club_count d) 99 [some (.ref 0), some (.int x1)] [.int y0] h Q :=
  am_iret rfl d_Club_count_99 q
theorem b_Club_count_100 {d : Nat} {x1 : Int32} {h : am_H} {Q : am_Q} (q : Q (some (.int (-1))) h) : am_W (X_Club_count d) 100 [some (.ref 0), some (.int x1)] [] h Q :=
  am_iconst (v := (-1)) d_Club_count_100 (by decide) <|
    am_iret rfl d_Club_count_101 q
theorem t_Club_count_51 {d : Nat} {x1 : Int32} {y0 : Int32} {h : am_H} {Q : am_Q} {res : Int32} (e : f_Club_count_51 h y0 = some res) (q : Q (some (.int res)) h) : am_W (X_Club_count (d + 3)) 51 [some (.ref 0), some (.int x1)] [.int y0] h Q :=
  b_Club_count_51 (d := (d + 3)) (q := (am_rIp (v := y0) e q))
theorem t_Club_count_44 {d : Nat} {x1 : Int32} {h : am_H} {Q : am_Q} {res : Int32} (e : f_Club_count_44 h = some res) (q : Q (some (.int res)) h) : am_W (X_Club_count (d + 3)) 44 [some (.ref 0), some (.int x1)] [] h Q :=
  b_Club_count_44 (d := (d + 2)) (k := c_Hole_clubsHeld (d := d + 2) rfl (t_Club_count_51 e q))
theorem t_Club_count_59 {d : Nat} {x1 : Int32} {y0 : Int32} {h : am_H} {Q : am_Q} {res : Int32} (e : f_Club_count_59 h y0 = some res) (q : Q (some (.int res)) h) : am_W (X_Club_count (d + 3)) 59 [some (.ref 0), some (.int x1)] [.int y0] h Q :=
  b_Club_count_59 (d := (d + 3)) (q := (am_rIp (v := y0) e q))
theorem t_Club_count_52 {d : Nat} {x1 : Int32} {h : am_H} {Q : am_Q} {res : Int32} (e : f_Club_count_52 h = some res) (q : Q (some (.int res)) h) : am_W (X_Club_count (d + 3)) 52 [some (.ref 0), some (.int x1)] [] h Q :=
  (am_bd e).elim fun p hp => b_Club_count_52 (d := (d + 2)) (k := c_Hole_greenCells (d := d) hp.1 (t_Club_count_59 hp.2 q))
theorem t_Club_count_67 {d : Nat} {x1 : Int32} {y0 : Int32} {h : am_H} {Q : am_Q} {res : Int32} (e : f_Club_count_67 h y0 = some res) (q : Q (some (.int res)) h) : am_W (X_Club_count (d + 3)) 67 [some (.ref 0), some (.int x1)] [.int y0] h Q :=
  b_Club_count_67 (d := (d + 3)) (q := (am_rIp (v := y0) e q))
theorem t_Club_count_60 {d : Nat} {x1 : Int32} {h : am_H} {Q : am_Q} {res : Int32} (e : f_Club_count_60 h = some res) (q : Q (some (.int res)) h) : am_W (X_Club_count (d + 3)) 60 [some (.ref 0), some (.int x1)] [] h Q :=
  (am_bd e).elim fun p hp => b_Club_count_60 (d := (d + 2)) (k := c_Hole_waterCells (d := d) hp.1 (t_Club_count_67 hp.2 q))
theorem t_Club_count_75 {d : Nat} {x1 : Int32} {y0 : Int32} {h : am_H} {Q : am_Q} {res : Int32} (e : f_Club_count_75 h y0 = some res) (q : Q (some (.int res)) h) : am_W (X_Club_count (d + 3)) 75 [some (.ref 0), some (.int x1)] [.int y0] h Q :=
  b_Club_count_75 (d := (d + 3)) (q := (am_rIp (v := y0) e q))
theorem t_Club_count_68 {d : Nat} {x1 : Int32} {h : am_H} {Q : am_Q} {res : Int32} (e : f_Club_count_68 h = some res) (q : Q (some (.int res)) h) : am_W (X_Club_count (d + 3)) 68 [some (.ref 0), some (.int x1)] [] h Q :=
  b_Club_count_68 (d := (d + 2)) (k := c_Law_tapeLength (d := d + 2) rfl (t_Club_count_75 e q))
theorem t_Club_count_83 {d : Nat} {x1 : Int32} {y0 : Int32} {h : am_H} {Q : am_Q} {res : Int32} (e : f_Club_count_83 h y0 = some res) (q : Q (some (.int res)) h) : am_W (X_Club_count (d + 3)) 83 [some (.ref 0), some (.int x1)] [.int y0] h Q :=
  b_Club_count_83 (d := (d + 3)) (q := (am_rIp (v := y0) e q))
theorem t_Club_count_76 {d : Nat} {x1 : Int32} {h : am_H} {Q : am_Q} {res : Int32} (e : f_Club_count_76 h = some res) (q : Q (some (.int res)) h) : am_W (X_Club_count (d + 3)) 76 [some (.ref 0), some (.int x1)] [] h Q :=
  b_Club_count_76 (d := (d + 2)) (k := c_Changes_toUndo (d := d + 2) rfl (t_Club_count_83 e q))
theorem t_Club_count_91 {d : Nat} {x1 : Int32} {y0 : Int32} {h : am_H} {Q : am_Q} {res : Int32} (e : f_Club_count_91 h y0 = some res) (q : Q (some (.int res)) h) : am_W (X_Club_count (d + 3)) 91 [some (.ref 0), some (.int x1)] [.int y0] h Q :=
  b_Club_count_91 (d := (d + 3)) (q := (am_rIp (v := y0) e q))
theorem t_Club_count_84 {d : Nat} {x1 : Int32} {h : am_H} {Q : am_Q} {res : Int32} (e : f_Club_count_84 h = some res) (q : Q (some (.int res)) h) : am_W (X_Club_count (d + 3)) 84 [some (.ref 0), some (.int x1)] [] h Q :=
  b_Club_count_84 (d := (d + 2)) (k := c_Words_wordsHeld (d := d + 2) rfl (t_Club_count_91 e q))
theorem t_Club_count_99 {d : Nat} {x1 : Int32} {y0 : Int32} {h : am_H} {Q : am_Q} {res : Int32} (e : f_Club_count_99 h y0 = some res) (q : Q (some (.int res)) h) : am_W (X_Club_count (d + 3)) 99 [some (.ref 0), some (.int x1)] [.int y0] h Q :=
  b_Club_count_99 (d := (d + 3)) (q := (am_rIp (v := y0) e q))
theorem t_Club_count_92 {d : Nat} {x1 : Int32} {h : am_H} {Q : am_Q} {res : Int32} (e : f_Club_count_92 h = some res) (q : Q (some (.int res)) h) : am_W (X_Club_count (d + 3)) 92 [some (.ref 0), some (.int x1)] [] h Q :=
  b_Club_count_92 (d := (d + 2)) (k := c_Words_ranInAll (d := d + 2) rfl (t_Club_count_99 e q))
theorem t_Club_count_100 {d : Nat} {x1 : Int32} {h : am_H} {Q : am_Q} {res : Int32} (e : f_Club_count_100 h = some res) (q : Q (some (.int res)) h) : am_W (X_Club_count (d + 3)) 100 [some (.ref 0), some (.int x1)] [] h Q :=
  b_Club_count_100 (d := (d + 3)) (q := (am_rIp (v := (-1)) e q))
theorem t_Club_count_0 {d : Nat} {x1 : Int32} {h : am_H} {Q : am_Q} {res : Int32} (e : f_Club_count h x1 = some res) (q : Q (some (.int res)) h) : am_W (X_Club_count (d + 3)) 0 [some (.ref 0), some (.int x1)] [] h Q :=
  b_Club_count_0 (d := (d + 3)) (k0 := fun c => (t_Club_count_44 (am_ift e c) q)) (k1 := fun c => (t_Club_count_52 (am_ift (am_ife e (fun z => absurd (c.symm.trans z) (by decide))) c) q)) (k2 := fun c => (t_Club_count_60 (am_ift (am_ife (am_ife e (fun z => absurd (c.symm.trans z) (by decide))) (fun z => absurd (c.symm.trans z) (by decide))) c) q)) (k3 := fun c => (t_Club_count_68 (am_ift (am_ife (am_ife (am_ife e (fun z => absurd (c.symm.trans z) (by decide))) (fun z => absurd (c.symm.trans z) (by decide))) (fun z => absurd (c.symm.trans z) (by decide))) c) q)) (k4 := fun c => (t_Club_count_76 (am_ift (am_ife (am_ife (am_ife (am_ife e (fun z => absurd (c.symm.trans z) (by decide))) (fun z => absurd (c.symm.trans z) (by decide))) (fun z => absurd (c.symm.trans z) (by decide))) (fun z => absurd (c.symm.trans z) (by decide))) c) q)) (k5 := fun c => (t_Club_count_84 (am_ift (am_ife (am_ife (am_ife (am_ife (am_ife e (fun z => absurd (c.symm.trans z) (by decide))) (fun z => absurd (c.symm.trans z) (by decide))) (fun z => absurd (c.symm.trans z) (by decide))) (fun z => absurd (c.symm.trans z) (by decide))) (fun z => absurd (c.symm.trans z) (by decide))) c) q)) (k6 := fun c => (t_Club_count_92 (am_ift (am_ife (am_ife (am_ife (am_ife (am_ife (am_ife e (fun z => absurd (c.symm.trans z) (by decide))) (fun z => absurd (c.symm.trans z) (by decide))) (fun z => absurd (c.symm.trans z) (by decide))) (fun z => absurd (c.symm.trans z) (by decide))) (fun z => absurd (c.symm.trans z) (by decide))) (fun z => absurd (c.symm.trans z) (by decide))) c) q)) (kd := fun c0 c1 c2 c3 c4 c5 c6 => (t_Club_count_100 (am_ife (am_ife (am_ife (am_ife (am_ife (am_ife (am_ife e c0) c1) c2) c3) c4) c5) c6) q))
theorem c_Club_count {d : Nat} {x1 : Int32} {h : am_H} {Q : am_Q} {res : Int32} (e : f_Club_count h x1 = some res) (q : Q (some (.int res)) h) : m_Club_count (d + 3) [.ref 0, .int x1] h Q :=
  e_Club_count (t_Club_count_0 e q)
theorem d_Model_within_0 : decode prog_12_method_1_code 0 = .ok (.lload_n 0, 1) := by decide +kernel
theorem d_Model_within_1 : decode prog_12_method_1_code 1 = .ok (.lload_n 2, 1) := by decide +kernel
theorem d_Model_within_2 : decode prog_12_method_1_code 2 = .ok (.lcmp, 1) := by decide +kernel
theorem d_Model_within_3 : decode prog_12_method_1_code 3 = .ok (.ifCond .lt 14, 3) := by decide +kernel
theorem d_Model_within_6 : decode prog_12_method_1_code 6 = .ok (.lload_n 0, 1) := by decide +kernel
theorem d_Model_within_7 : decode prog_12_method_1_code 7 = .ok (.lload 4, 2) := by decide +kernel
theorem d_Model_within_9 : decode prog_12_method_1_code 9 = .ok (.lcmp, 1) := by decide +kernel
theorem d_Model_within_10 : decode prog_12_method_1_code 10 = .ok (.ifCond .gt 7, 3) := by decide +kernel
theorem d_Model_within_13 : decode prog_12_method_1_code 13 = .ok (.iconst 1, 1) := by decide +kernel
theorem d_Model_within_14 : decode prog_12_method_1_code 14 = .ok (.goto 4, 3) := by decide +kernel
theorem d_Model_within_17 : decode prog_12_method_1_code 17 = .ok (.iconst 0, 1) := by decide +kernel
theorem d_Model_within_18 : decode prog_12_method_1_code 18 = .ok (.ireturn, 1) := by decide +kernel
theorem b_Model_within_0 {d : Nat} {x0 : Int64} {x2 : Int64} {x4 : Int64} {h : am_H} {Q : am_Q} (kt : x0 < x2 → am_W (X_Model_within d) 17 [some (.long x0), none, some (.long x2), none, some (.long x4), none] [] h Q) (kf : ¬ x0 < x2 → am_W (X_Model_within d) 6 [some (.long x0), none, some (.long x2), none, some (.long x4), none] [] h Q) : am_W (X_Model_within d) 0 [some (.long x0), none, some (.long x2), none, some (.long x4), none] [] h Q :=
  am_lload_n d_Model_within_0 rfl (i := 0) rfl <|
    am_lload_n d_Model_within_1 rfl (i := 2) rfl <|
    am_lc_if_lt (tgt := 17) d_Model_within_2 d_Model_within_3 (by decide) kt kf
theorem b_Model_within_6 {d : Nat} {x0 : Int64} {x2 : Int64} {x4 : Int64} {h : am_H} {Q : am_Q} (kt : x4 < x0 → am_W (X_Model_within d) 17 [some (.long x0), none, some (.long x2), none, some (.long x4), none] [] h Q) (kf : ¬ x4 < x0 → am_W (X_Model_within d) 13 [some (.long x0), none, some (.long x2), none, some (.long x4), none] [] h Q) : am_W (X_Model_within d) 6 [some (.long x0), none, some (.long x2), none, some (.long x4), none] [] h Q :=
  am_lload_n d_Model_within_6 rfl (i := 0) rfl <|
    am_lload d_Model_within_7 rfl <|
    am_lc_if_gt (tgt := 17) d_Model_within_9 d_Model_within_10 (by decide) kt kf
theorem b_Model_within_13 {d : Nat} {x0 : Int64} {x2 : Int64} {x4 : Int64} {h : am_H} {Q : am_Q} (q : Q (some (.int 1)) h) : am_W (X_Model_within d) 13 [some (.long x0), none, some (.long x2), none, some (.long x4), none] [] h Q :=
  am_iconst (v := 1) d_Model_within_13 (by decide) <|
    am_goto (tgt := 18) d_Model_within_14 (by decide) <|
    am_zret (ty := .boolean) rfl (by decide) d_Model_within_18 q
theorem b_Model_within_17 {d : Nat} {x0 : Int64} {x2 : Int64} {x4 : Int64} {h : am_H} {Q : am_Q} (q : Q (some (.int 0)) h) : am_W (X_Model_within d) 17 [some (.long x0), none, some (.long x2), none, some (.long x4), none] [] h Q :=
  am_iconst (v := 0) d_Model_within_17 (by decide) <|
    am_zret (ty := .boolean) rfl (by decide) d_Model_within_18 q
theorem t_Model_within_17 {d : Nat} {x0 : Int64} {x2 : Int64} {x4 : Int64} {h : am_H} {Q : am_Q} {res : Bool} (e : f_Model_within_17 = res) (q : Q (some (.int (am_b res))) h) : am_W (X_Model_within d) 17 [some (.long x0), none, some (.long x2), none, some (.long x4), none] [] h Q :=
  b_Model_within_17 (d := d) (q := (am_rZt (v := false) e q))
theorem t_Model_within_13 {d : Nat} {x0 : Int64} {x2 : Int64} {x4 : Int64} {h : am_H} {Q : am_Q} {res : Bool} (e : f_Model_within_13 = res) (q : Q (some (.int (am_b res))) h) : am_W (X_Model_within d) 13 [some (.long x0), none, some (.long x2), none, some (.long x4), none] [] h Q :=
  b_Model_within_13 (d := d) (q := (am_rZt (v := true) e q))
theorem t_Model_within_6 {d : Nat} {x0 : Int64} {x2 : Int64} {x4 : Int64} {h : am_H} {Q : am_Q} {res : Bool} (e : f_Model_within_6 x0 x4 = res) (q : Q (some (.int (am_b res))) h) : am_W (X_Model_within d) 6 [some (.long x0), none, some (.long x2), none, some (.long x4), none] [] h Q :=
  b_Model_within_6 (d := d) (kt := fun c => (t_Model_within_17 (am_ift e c) q)) (kf := fun c => (t_Model_within_13 (am_ife e c) q))
theorem t_Model_within_0 {d : Nat} {x0 : Int64} {x2 : Int64} {x4 : Int64} {h : am_H} {Q : am_Q} {res : Bool} (e : f_Model_within x0 x2 x4 = res) (q : Q (some (.int (am_b res))) h) : am_W (X_Model_within d) 0 [some (.long x0), none, some (.long x2), none, some (.long x4), none] [] h Q :=
  b_Model_within_0 (d := d) (kt := fun c => (t_Model_within_17 (am_ift e c) q)) (kf := fun c => (t_Model_within_6 (am_ife e c) q))
theorem c_Model_within {d : Nat} {x0 : Int64} {x2 : Int64} {x4 : Int64} {h : am_H} {Q : am_Q} {res : Bool} (e : f_Model_within x0 x2 x4 = res) (q : Q (some (.int (am_b res))) h) : m_Model_within d [.long x0, .long x2, .long x4] h Q :=
  e_Model_within (t_Model_within_0 e q)
theorem d_Model_sizeOf_0 : decode prog_12_method_2_code 0 = .ok (.iload_n 0, 1) := by decide +kernel
theorem d_Model_sizeOf_1 : decode prog_12_method_2_code 1 = .ok (.ifCond .ge 8, 3) := by decide +kernel
theorem d_Model_sizeOf_4 : decode prog_12_method_2_code 4 = .ok (.iload_n 0, 1) := by decide +kernel
theorem d_Model_sizeOf_5 : decode prog_12_method_2_code 5 = .ok (.ineg, 1) := by decide +kernel
theorem d_Model_sizeOf_6 : decode prog_12_method_2_code 6 = .ok (.goto 4, 3) := by decide +kernel
theorem d_Model_sizeOf_9 : decode prog_12_method_2_code 9 = .ok (.iload_n 0, 1) := by decide +kernel
theorem d_Model_sizeOf_10 : decode prog_12_method_2_code 10 = .ok (.ireturn, 1) := by decide +kernel
theorem b_Model_sizeOf_0 {d : Nat} {x0 : Int32} {h : am_H} {Q : am_Q} (kt : 0 ≤ x0 → am_W (X_Model_sizeOf d) 9 [some (.int x0)] [] h Q) (kf : ¬ 0 ≤ x0 → am_W (X_Model_sizeOf d) 4 [some (.int x0)] [] h Q) : am_W (X_Model_sizeOf d) 0 [some (.int x0)] [] h Q :=
  am_iload_n d_Model_sizeOf_0 rfl (i := 0) rfl <|
    am_if_ge (tgt := 9) d_Model_sizeOf_1 (by decide) kt kf
theorem b_Model_sizeOf_4 {d : Nat} {x0 : Int32} {h : am_H} {Q : am_Q} (q : Q (some (.int (-x0))) h) : am_W (X_Model_sizeOf d) 4 [some (.int x0)] [] h Q :=
  am_iload_n d_Model_sizeOf_4 rfl (i := 0) rfl <|
    am_ineg d_Model_sizeOf_5 <|
    am_goto (tgt := 10) d_Model_sizeOf_6 (by decide) <|
    am_iret rfl d_Model_sizeOf_10 q
theorem b_Model_sizeOf_9 {d : Nat} {x0 : Int32} {h : am_H} {Q : am_Q} (q : Q (some (.int x0)) h) : am_W (X_Model_sizeOf d) 9 [some (.int x0)] [] h Q :=
  am_iload_n d_Model_sizeOf_9 rfl (i := 0) rfl <|
    am_iret rfl d_Model_sizeOf_10 q
theorem t_Model_sizeOf_9 {d : Nat} {x0 : Int32} {h : am_H} {Q : am_Q} {res : Int32} (e : f_Model_sizeOf_9 x0 = res) (q : Q (some (.int res)) h) : am_W (X_Model_sizeOf d) 9 [some (.int x0)] [] h Q :=
  b_Model_sizeOf_9 (d := d) (q := (am_rIt (v := x0) e q))
theorem t_Model_sizeOf_4 {d : Nat} {x0 : Int32} {h : am_H} {Q : am_Q} {res : Int32} (e : f_Model_sizeOf_4 x0 = res) (q : Q (some (.int res)) h) : am_W (X_Model_sizeOf d) 4 [some (.int x0)] [] h Q :=
  b_Model_sizeOf_4 (d := d) (q := (am_rIt (v := (-x0)) e q))
theorem t_Model_sizeOf_0 {d : Nat} {x0 : Int32} {h : am_H} {Q : am_Q} {res : Int32} (e : f_Model_sizeOf x0 = res) (q : Q (some (.int res)) h) : am_W (X_Model_sizeOf d) 0 [some (.int x0)] [] h Q :=
  b_Model_sizeOf_0 (d := d) (kt := fun c => (t_Model_sizeOf_9 (am_ift e c) q)) (kf := fun c => (t_Model_sizeOf_4 (am_ife e c) q))
theorem c_Model_sizeOf {d : Nat} {x0 : Int32} {h : am_H} {Q : am_Q} {res : Int32} (e : f_Model_sizeOf x0 = res) (q : Q (some (.int res)) h) : m_Model_sizeOf d [.int x0] h Q :=
  e_Model_sizeOf (t_Model_sizeOf_0 e q)
theorem d_Model_becomes_0 : decode prog_12_method_4_code 0 = .ok (.aload_n 0, 1) := by decide +kernel
theorem d_Model_becomes_1 : decode prog_12_method_4_code 1 = .ok (.getfield 11, 3) := by decide +kernel
theorem d_Model_becomes_4 : decode prog_12_method_4_code 4 = .ok (.iload_n 1, 1) := by decide +kernel
theorem d_Model_becomes_5 : decode prog_12_method_4_code 5 = .ok (.iaload, 1) := by decide +kernel
theorem d_Model_becomes_6 : decode prog_12_method_4_code 6 = .ok (.istore_n 3, 1) := by decide +kernel
theorem d_Model_becomes_7 : decode prog_12_method_4_code 7 = .ok (.iload_n 3, 1) := by decide +kernel
theorem d_Model_becomes_8 : decode prog_12_method_4_code 8 = .ok (.iload_n 2, 1) := by decide +kernel
theorem d_Model_becomes_9 : decode prog_12_method_4_code 9 = .ok (.if_icmp .ne 5, 3) := by decide +kernel
theorem d_Model_becomes_12 : decode prog_12_method_4_code 12 = .ok (.iload_n 3, 1) := by decide +kernel
theorem d_Model_becomes_13 : decode prog_12_method_4_code 13 = .ok (.ireturn, 1) := by decide +kernel
theorem d_Model_becomes_14 : decode prog_12_method_4_code 14 = .ok (.aload_n 0, 1) := by decide +kernel
theorem d_Model_becomes_15 : decode prog_12_method_4_code 15 = .ok (.getfield 74, 3) := by decide +kernel
theorem d_Model_becomes_18 : decode prog_12_method_4_code 18 = .ok (.bipush 40, 2) := by decide +kernel
theorem d_Model_becomes_20 : decode prog_12_method_4_code 20 = .ok (.if_icmp .ne 77, 3) := by decide +kernel
theorem d_Model_becomes_23 : decode prog_12_method_4_code 23 = .ok (.iconst 1, 1) := by decide +kernel
theorem d_Model_becomes_24 : decode prog_12_method_4_code 24 = .ok (.istore 4, 2) := by decide +kernel
theorem d_Model_becomes_26 : decode prog_12_method_4_code 26 = .ok (.iload 4, 2) := by decide +kernel
theorem d_Model_becomes_28 : decode prog_12_method_4_code 28 = .ok (.bipush 40, 2) := by decide +kernel
theorem d_Model_becomes_30 : decode prog_12_method_4_code 30 = .ok (.if_icmp .ge 57, 3) := by decide +kernel
theorem d_Model_becomes_33 : decode prog_12_method_4_code 33 = .ok (.aload_n 0, 1) := by decide +kernel
theorem d_Model_becomes_34 : decode prog_12_method_4_code 34 = .ok (.getfield 15, 3) := by decide +kernel
theorem d_Model_becomes_37 : decode prog_12_method_4_code 37 = .ok (.iload 4, 2) := by decide +kernel
theorem d_Model_becomes_39 : decode prog_12_method_4_code 39 = .ok (.iconst 1, 1) := by decide +kernel
theorem d_Model_becomes_40 : decode prog_12_method_4_code 40 = .ok (.isub, 1) := by decide +kernel
theorem d_Model_becomes_41 : decode prog_12_method_4_code 41 = .ok (.aload_n 0, 1) := by decide +kernel
theorem d_Model_becomes_42 : decode prog_12_method_4_code 42 = .ok (.getfield 15, 3) := by decide +kernel
theorem d_Model_becomes_45 : decode prog_12_method_4_code 45 = .ok (.iload 4, 2) := by decide +kernel
theorem d_Model_becomes_47 : decode prog_12_method_4_code 47 = .ok (.iaload, 1) := by decide +kernel
theorem d_Model_becomes_48 : decode prog_12_method_4_code 48 = .ok (.iastore, 1) := by decide +kernel
theorem d_Model_becomes_49 : decode prog_12_method_4_code 49 = .ok (.aload_n 0, 1) := by decide +kernel
theorem d_Model_becomes_50 : decode prog_12_method_4_code 50 = .ok (.getfield 18, 3) := by decide +kernel
theorem d_Model_becomes_53 : decode prog_12_method_4_code 53 = .ok (.iload 4, 2) := by decide +kernel
theorem d_Model_becomes_55 : decode prog_12_method_4_code 55 = .ok (.iconst 1, 1) := by decide +kernel
theorem d_Model_becomes_56 : decode prog_12_method_4_code 56 = .ok (.isub, 1) := by decide +kernel
theorem d_Model_becomes_57 : decode prog_12_method_4_code 57 = .ok (.aload_n 0, 1) := by decide +kernel
theorem d_Model_becomes_58 : decode prog_12_method_4_code 58 = .ok (.getfield 18, 3) := by decide +kernel
theorem d_Model_becomes_61 : decode prog_12_method_4_code 61 = .ok (.iload 4, 2) := by decide +kernel
theorem d_Model_becomes_63 : decode prog_12_method_4_code 63 = .ok (.iaload, 1) := by decide +kernel
theorem d_Model_becomes_64 : decode prog_12_method_4_code 64 = .ok (.iastore, 1) := by decide +kernel
theorem d_Model_becomes_65 : decode prog_12_method_4_code 65 = .ok (.aload_n 0, 1) := by decide +kernel
theorem d_Model_becomes_66 : decode prog_12_method_4_code 66 = .ok (.getfield 21, 3) := by decide +kernel
theorem d_Model_becomes_69 : decode prog_12_method_4_code 69 = .ok (.iload 4, 2) := by decide +kernel
theorem d_Model_becomes_71 : decode prog_12_method_4_code 71 = .ok (.iconst 1, 1) := by decide +kernel
theorem d_Model_becomes_72 : decode prog_12_method_4_code 72 = .ok (.isub, 1) := by decide +kernel
theorem d_Model_becomes_73 : decode prog_12_method_4_code 73 = .ok (.aload_n 0, 1) := by decide +kernel
theorem d_Model_becomes_74 : decode prog_12_method_4_code 74 = .ok (.getfield 21, 3) := by decide +kernel
theorem d_Model_becomes_77 : decode prog_12_method_4_code 77 = .ok (.iload 4, 2) := by decide +kernel
theorem d_Model_becomes_79 : decode prog_12_method_4_code 79 = .ok (.iaload, 1) := by decide +kernel
theorem d_Model_becomes_80 : decode prog_12_method_4_code 80 = .ok (.iastore, 1) := by decide +kernel
theorem d_Model_becomes_81 : decode prog_12_method_4_code 81 = .ok (.iinc 4 1, 3) := by decide +kernel
theorem d_Model_becomes_84 : decode prog_12_method_4_code 84 = .ok (.goto (-58), 3) := by decide +kernel
theorem d_Model_becomes_87 : decode prog_12_method_4_code 87 = .ok (.aload_n 0, 1) := by decide +kernel
theorem d_Model_becomes_88 : decode prog_12_method_4_code 88 = .ok (.dup, 1) := by decide +kernel
theorem d_Model_becomes_89 : decode prog_12_method_4_code 89 = .ok (.getfield 74, 3) := by decide +kernel
theorem d_Model_becomes_92 : decode prog_12_method_4_code 92 = .ok (.iconst 1, 1) := by decide +kernel
theorem d_Model_becomes_93 : decode prog_12_method_4_code 93 = .ok (.isub, 1) := by decide +kernel
theorem d_Model_becomes_94 : decode prog_12_method_4_code 94 = .ok (.putfield 74, 3) := by decide +kernel
theorem d_Model_becomes_97 : decode prog_12_method_4_code 97 = .ok (.aload_n 0, 1) := by decide +kernel
theorem d_Model_becomes_98 : decode prog_12_method_4_code 98 = .ok (.getfield 15, 3) := by decide +kernel
theorem d_Model_becomes_101 : decode prog_12_method_4_code 101 = .ok (.aload_n 0, 1) := by decide +kernel
theorem d_Model_becomes_102 : decode prog_12_method_4_code 102 = .ok (.getfield 74, 3) := by decide +kernel
theorem d_Model_becomes_105 : decode prog_12_method_4_code 105 = .ok (.iload_n 1, 1) := by decide +kernel
theorem d_Model_becomes_106 : decode prog_12_method_4_code 106 = .ok (.iastore, 1) := by decide +kernel
theorem d_Model_becomes_107 : decode prog_12_method_4_code 107 = .ok (.aload_n 0, 1) := by decide +kernel
theorem d_Model_becomes_108 : decode prog_12_method_4_code 108 = .ok (.getfield 18, 3) := by decide +kernel
theorem d_Model_becomes_111 : decode prog_12_method_4_code 111 = .ok (.aload_n 0, 1) := by decide +kernel
theorem d_Model_becomes_112 : decode prog_12_method_4_code 112 = .ok (.getfield 74, 3) := by decide +kernel
theorem d_Model_becomes_115 : decode prog_12_method_4_code 115 = .ok (.iload_n 3, 1) := by decide +kernel
theorem d_Model_becomes_116 : decode prog_12_method_4_code 116 = .ok (.iastore, 1) := by decide +kernel
theorem d_Model_becomes_117 : decode prog_12_method_4_code 117 = .ok (.aload_n 0, 1) := by decide +kernel
theorem d_Model_becomes_118 : decode prog_12_method_4_code 118 = .ok (.getfield 21, 3) := by decide +kernel
theorem d_Model_becomes_121 : decode prog_12_method_4_code 121 = .ok (.aload_n 0, 1) := by decide +kernel
theorem d_Model_becomes_122 : decode prog_12_method_4_code 122 = .ok (.getfield 74, 3) := by decide +kernel
theorem d_Model_becomes_125 : decode prog_12_method_4_code 125 = .ok (.iload_n 2, 1) := by decide +kernel
theorem d_Model_becomes_126 : decode prog_12_method_4_code 126 = .ok (.iastore, 1) := by decide +kernel
theorem d_Model_becomes_127 : decode prog_12_method_4_code 127 = .ok (.aload_n 0, 1) := by decide +kernel
theorem d_Model_becomes_128 : decode prog_12_method_4_code 128 = .ok (.dup, 1) := by decide +kernel
theorem d_Model_becomes_129 : decode prog_12_method_4_code 129 = .ok (.getfield 74, 3) := by decide +kernel
theorem d_Model_becomes_132 : decode prog_12_method_4_code 132 = .ok (.iconst 1, 1) := by decide +kernel
theorem d_Model_becomes_133 : decode prog_12_method_4_code 133 = .ok (.iadd, 1) := by decide +kernel
theorem d_Model_becomes_134 : decode prog_12_method_4_code 134 = .ok (.putfield 74, 3) := by decide +kernel
theorem d_Model_becomes_137 : decode prog_12_method_4_code 137 = .ok (.aload_n 0, 1) := by decide +kernel
theorem d_Model_becomes_138 : decode prog_12_method_4_code 138 = .ok (.aload_n 0, 1) := by decide +kernel
theorem d_Model_becomes_139 : decode prog_12_method_4_code 139 = .ok (.getfield 74, 3) := by decide +kernel
theorem d_Model_becomes_142 : decode prog_12_method_4_code 142 = .ok (.putfield 77, 3) := by decide +kernel
theorem d_Model_becomes_145 : decode prog_12_method_4_code 145 = .ok (.aload_n 0, 1) := by decide +kernel
theorem d_Model_becomes_146 : decode prog_12_method_4_code 146 = .ok (.getfield 11, 3) := by decide +kernel
theorem d_Model_becomes_149 : decode prog_12_method_4_code 149 = .ok (.iload_n 1, 1) := by decide +kernel
theorem d_Model_becomes_150 : decode prog_12_method_4_code 150 = .ok (.iload_n 2, 1) := by decide +kernel
theorem d_Model_becomes_151 : decode prog_12_method_4_code 151 = .ok (.iastore, 1) := by decide +kernel
theorem d_Model_becomes_152 : decode prog_12_method_4_code 152 = .ok (.iload_n 3, 1) := by decide +kernel
theorem d_Model_becomes_153 : decode prog_12_method_4_code 153 = .ok (.ireturn, 1) := by decide +kernel
theorem b_Model_becomes_0 {d : Nat} {x1 : Int32} {x2 : Int32} {h : am_H} {Q : am_Q} (q0 : vp_in x1 54) (kt : ¬ (h.1 1 x1.toNatClampNeg) = x2 → am_W (X_Model_becomes d) 14 [some (.ref 0), some (.int x1), some (.int x2), some (.int (h.1 1 x1.toNatClampNeg)), none] [] h Q) (kf : (h.1 1 x1.toNatClampNeg) = x2 → am_W (X_Model_becomes d) 12 [some (.ref 0), some (.int x1), some (.int x2), some (.int (h.1 1 x1.toNatClampNeg)), none] [] h Q) : am_W (X_Model_becomes d) 0 [some (.ref 0), some (.int x1), some (.int x2), none, none] [] h Q :=
  am_aload_n d_Model_becomes_0 rfl (i := 0) rfl <|
    am_getR (ci := 10) (i := 0) rfl rfl rfl (Nat.le_of_ble_eq_true rfl) w_1318 d_Model_becomes_1 <|
    am_iload_n d_Model_becomes_4 rfl (i := 1) rfl <|
    am_iald rfl q0 d_Model_becomes_5 <|
    am_istore_n (ls' := [some (.ref 0), some (.int x1), some (.int x2), some (.int (h.1 1 x1.toNatClampNeg)), none]) d_Model_becomes_6 rfl (Nat.le_of_ble_eq_true rfl) rfl <|
    am_iload_n d_Model_becomes_7 rfl (i := 3) rfl <|
    am_iload_n d_Model_becomes_8 rfl (i := 2) rfl <|
    am_icmp_ne (tgt := 14) d_Model_becomes_9 (by decide) kt kf
theorem b_Model_becomes_12 {d : Nat} {x1 : Int32} {x2 : Int32} {x3 : Int32} {h : am_H} {Q : am_Q} (q : Q (some (.int x3)) h) : am_W (X_Model_becomes d) 12 [some (.ref 0), some (.int x1), some (.int x2), some (.int x3), none] [] h Q :=
  am_iload_n d_Model_becomes_12 rfl (i := 3) rfl <|
    am_iret rfl d_Model_becomes_13 q
theorem b_Model_becomes_14 {d : Nat} {x1 : Int32} {x2 : Int32} {x3 : Int32} {h : am_H} {Q : am_Q} (kt : ¬ (h.1 0 5) = 40 → am_W (X_Model_becomes d) 97 [some (.ref 0), some (.int x1), some (.int x2), some (.int x3), none] [] h Q) (kf : (h.1 0 5) = 40 → am_W (X_Model_becomes d) 23 [some (.ref 0), some (.int x1), some (.int x2), some (.int x3), none] [] h Q) : am_W (X_Model_becomes d) 14 [some (.ref 0), some (.int x1), some (.int x2), some (.int x3), none] [] h Q :=
  am_aload_n d_Model_becomes_14 rfl (i := 0) rfl <|
    am_getI (ci := 10) (i := 5) rfl rfl rfl (Nat.le_of_ble_eq_true rfl) w_1323 d_Model_becomes_15 <|
    am_bipush (v := 40) d_Model_becomes_18 (by decide) <|
    am_icmp_ne (tgt := 97) d_Model_becomes_20 (by decide) kt kf
theorem b_Model_becomes_23 {d : Nat} {x1 : Int32} {x2 : Int32} {x3 : Int32} {h : am_H} {Q : am_Q} (k : am_W (X_Model_becomes d) 26 [some (.ref 0), some (.int x1), some (.int x2), some (.int x3), some (.int 1)] [] h Q) : am_W (X_Model_becomes d) 23 [some (.ref 0), some (.int x1), some (.int x2), some (.int x3), none] [] h Q :=
  am_iconst (v := 1) d_Model_becomes_23 (by decide) <|
    am_istore (ls' := [some (.ref 0), some (.int x1), some (.int x2), some (.int x3), some (.int 1)]) d_Model_becomes_24 (Nat.le_of_ble_eq_true rfl) rfl <|
    k
theorem b_Model_becomes_26 {d : Nat} {x1 : Int32} {x2 : Int32} {x3 : Int32} {x4 : Int32} {h : am_H} {Q : am_Q} (kt : 40 ≤ x4 → am_W (X_Model_becomes d) 87 [some (.ref 0), some (.int x1), some (.int x2), some (.int x3), some (.int x4)] [] h Q) (kf : ¬ 40 ≤ x4 → am_W (X_Model_becomes d) 33 [some (.ref 0), some (.int x1), some (.int x2), some (.int x3), some (.int x4)] [] h Q) : am_W (X_Model_becomes d) 26 [some (.ref 0), some (.int x1), some (.int x2), some (.int x3), some (.int x4)] [] h Q :=
  am_iload d_Model_becomes_26 rfl <|
    am_bipush (v := 40) d_Model_becomes_28 (by decide) <|
    am_icmp_ge (tgt := 87) d_Model_becomes_30 (by decide) kt kf
theorem b_Model_becomes_33 {d : Nat} {x1 : Int32} {x2 : Int32} {x3 : Int32} {x4 : Int32} {h : am_H} {Q : am_Q} (q0 : vp_in x4 40) (q1 : vp_in (x4 - 1) 40) (k : am_W (X_Model_becomes d) 26 [some (.ref 0), some (.int x1), some (.int x2), some (.int x3), some (.int (x4 + 1))] [] (am_pI (am_pI (am_pI h 2 (x4 - 1).toNatClampNeg (h.1 2 x4.toNatClampNeg)) 3 (x4 - 1).toNatClampNeg ((am_pI h 2 (x4 - 1).toNatClampNeg (h.1 2 x4.toNatClampNeg)).1 3 x4.toNatClampNeg)) 4 (x4 - 1).toNatClampNeg ((am_pI (am_pI h 2 (x4 - 1).toNatClampNeg (h.1 2 x4.toNatClampNeg)) 3 (x4 - 1).toNatClampNeg ((am_pI h 2 (x4 - 1).toNatClampNeg (h.1 2 x4.toNatClampNeg)).1 3 x4.toNatClampNeg)).1 4 x4.toNatClampNeg)) Q) : am_W (X_Model_becomes d) 33 [some (.ref 0), some (.int x1), some (.int x2), some (.int x3), some (.int x4)] [] h Q :=
  am_aload_n d_Model_becomes_33 rfl (i := 0) rfl <|
    am_getR (ci := 10) (i := 1) rfl rfl rfl (Nat.le_of_ble_eq_true rfl) w_1319 d_Model_becomes_34 <|
    am_iload d_Model_becomes_37 rfl <|
    am_iconst (v := 1) d_Model_becomes_39 (by decide) <|
    am_isub d_Model_becomes_40 <|
    am_aload_n d_Model_becomes_41 rfl (i := 0) rfl <|
    am_getR (ci := 10) (i := 1) rfl rfl rfl (Nat.le_of_ble_eq_true rfl) w_1319 d_Model_becomes_42 <|
    am_iload d_Model_becomes_45 rfl <|
    am_iald rfl q0 d_Model_becomes_47 <|
    am_iast rfl q1 d_Model_becomes_48 <|
    am_aload_n d_Model_becomes_49 rfl (i := 0) rfl <|
    am_getR (ci := 10) (i := 2) rfl rfl rfl (Nat.le_of_ble_eq_true rfl) w_1320 d_Model_becomes_50 <|
    am_iload d_Model_becomes_53 rfl <|
    am_iconst (v := 1) d_Model_becomes_55 (by decide) <|
    am_isub d_Model_becomes_56 <|
    am_aload_n d_Model_becomes_57 rfl (i := 0) rfl <|
    am_getR (ci := 10) (i := 2) rfl rfl rfl (Nat.le_of_ble_eq_true rfl) w_1320 d_Model_becomes_58 <|
    am_iload d_Model_becomes_61 rfl <|
    am_iald rfl q0 d_Model_becomes_63 <|
    am_iast rfl q1 d_Model_becomes_64 <|
    am_aload_n d_Model_becomes_65 rfl (i := 0) rfl <|
    am_getR (ci := 10) (i := 3) rfl rfl rfl (Nat.le_of_ble_eq_true rfl) w_1321 d_Model_becomes_66 <|
    am_iload d_Model_becomes_69 rfl <|
    am_iconst (v := 1) d_Model_becomes_71 (by decide) <|
    am_isub d_Model_becomes_72 <|
    am_aload_n d_Model_becomes_73 rfl (i := 0) rfl <|
    am_getR (ci := 10) (i := 3) rfl rfl rfl (Nat.le_of_ble_eq_true rfl) w_1321 d_Model_becomes_74 <|
    am_iload d_Model_becomes_77 rfl <|
    am_iald rfl q0 d_Model_becomes_79 <|
    am_iast rfl q1 d_Model_becomes_80 <|
    am_iinc (v := (x4 + 1)) (ls' := [some (.ref 0), some (.int x1), some (.int x2), some (.int x3), some (.int (x4 + 1))]) d_Model_becomes_81 rfl rfl (Nat.le_of_ble_eq_true rfl) rfl <|
    am_goto (tgt := 26) d_Model_becomes_84 (by decide) k
theorem b_Model_becomes_87 {d : Nat} {x1 : Int32} {x2 : Int32} {x3 : Int32} {x4 : Int32} {h : am_H} {Q : am_Q} (k : am_W (X_Model_becomes d) 97 [some (.ref 0), some (.int x1), some (.int x2), some (.int x3), some (.int x4)] [] (am_pI h 0 5 ((h.1 0 5) - 1)) Q) : am_W (X_Model_becomes d) 87 [some (.ref 0), some (.int x1), some (.int x2), some (.int x3), some (.int x4)] [] h Q :=
  am_aload_n d_Model_becomes_87 rfl (i := 0) rfl <|
    am_dupR d_Model_becomes_88 <|
    am_getI (ci := 10) (i := 5) rfl rfl rfl (Nat.le_of_ble_eq_true rfl) w_1323 d_Model_becomes_89 <|
    am_iconst (v := 1) d_Model_becomes_92 (by decide) <|
    am_isub d_Model_becomes_93 <|
    am_putI (ci := 10) (i := 5) rfl rfl rfl (Nat.le_of_ble_eq_true rfl) w_1323 rfl rfl rfl d_Model_becomes_94 <|
    k
theorem b_Model_becomes_97 {d : Nat} {x1 : Int32} {x2 : Int32} {x3 : Int32} {h : am_H} {Q : am_Q} (q0 : vp_in (h.1 0 5) 40) (q1 : vp_in ((am_pI h 2 (h.1 0 5).toNatClampNeg x1).1 0 5) 40) (q2 : vp_in ((am_pI (am_pI h 2 (h.1 0 5).toNatClampNeg x1) 3 ((am_pI h 2 (h.1 0 5).toNatClampNeg x1).1 0 5).toNatClampNeg x3).1 0 5) 40) (q3 : vp_in x1 54) (q : Q (some (.int x3)) (am_pI (am_pI (am_pI (am_pI (am_pI (am_pI h 2 (h.1 0 5).toNatClampNeg x1) 3 ((am_pI h 2 (h.1 0 5).toNatClampNeg x1).1 0 5).toNatClampNeg x3) 4 ((am_pI (am_pI h 2 (h.1 0 5).toNatClampNeg x1) 3 ((am_pI h 2 (h.1 0 5).toNatClampNeg x1).1 0 5).toNatClampNeg x3).1 0 5).toNatClampNeg x2) 0 5 (((am_pI (am_pI (am_pI h 2 (h.1 0 5).toNatClampNeg x1) 3 ((am_pI h 2 (h.1 0 5).toNatClampNeg x1).1 0 5).toNatClampNeg x3) 4 ((am_pI (am_pI h 2 (h.1 0 5).toNatClampNeg x1) 3 ((am_pI h 2 (h.1 0 5).toNatClampNeg x1).1 0 5).toNatClampNeg x3).1 0 5).toNatClampNeg x2).1 0 5) + 1)) 0 4 ((am_pI (am_pI (am_pI (am_pI h 2 (h.1 0 5).toNatClampNeg x1) 3 ((am_pI h 2 (h.1 0 5).toNatClampNeg x1).1 0 5).toNatClampNeg x3) 4 ((am_pI (am_pI h 2 (h.1 0 5).toNatClampNeg x1) 3 ((am_pI h 2 (h.1 0 5).toNatClampNeg x1).1 0 5).toNatClampNeg x3).1 0 5).toNatClampNeg x2) 0 5 (((am_pI (am_pI (am_pI h 2 (h.1 0 5).toNatClampNeg x1) 3 ((am_pI h 2 (h.1 0 5).toNatClampNeg x1).1 0 5).toNatClampNeg x3) 4 ((am_pI (am_pI h 2 (h.1 0 5).toNatClampNeg x1) 3 ((am_pI h 2 (h.1 0 5).toNatClampNeg x1).1 0 5).toNatClampNeg x3).1 0 5).toNatClampNeg x2).1 0 5) + 1)).1 0 5)) 1 x1.toNatClampNeg x2)) : am_W (X_Model_becomes d) 97 [some (.ref 0), some (.int x1), some (.int x2), some (.int x3), none] [] h Q :=
  am_aload_n d_Model_becomes_97 rfl (i := 0) rfl <|
    am_getR (ci := 10) (i := 1) rfl rfl rfl (Nat.le_of_ble_eq_true rfl) w_1319 d_Model_becomes_98 <|
    am_aload_n d_Model_becomes_101 rfl (i := 0) rfl <|
    am_getI (ci := 10) (i := 5) rfl rfl rfl (Nat.le_of_ble_eq_true rfl) w_1323 d_Model_becomes_102 <|
    am_iload_n d_Model_becomes_105 rfl (i := 1) rfl <|
    am_iast rfl q0 d_Model_becomes_106 <|
    am_aload_n d_Model_becomes_107 rfl (i := 0) rfl <|
    am_getR (ci := 10) (i := 2) rfl rfl rfl (Nat.le_of_ble_eq_true rfl) w_1320 d_Model_becomes_108 <|
    am_aload_n d_Model_becomes_111 rfl (i := 0) rfl <|
    am_getI (ci := 10) (i := 5) rfl rfl rfl (Nat.le_of_ble_eq_true rfl) w_1323 d_Model_becomes_112 <|
    am_iload_n d_Model_becomes_115 rfl (i := 3) rfl <|
    am_iast rfl q1 d_Model_becomes_116 <|
    am_aload_n d_Model_becomes_117 rfl (i := 0) rfl <|
    am_getR (ci := 10) (i := 3) rfl rfl rfl (Nat.le_of_ble_eq_true rfl) w_1321 d_Model_becomes_118 <|
    am_aload_n d_Model_becomes_121 rfl (i := 0) rfl <|
    am_getI (ci := 10) (i := 5) rfl rfl rfl (Nat.le_of_ble_eq_true rfl) w_1323 d_Model_becomes_122 <|
    am_iload_n d_Model_becomes_125 rfl (i := 2) rfl <|
    am_iast rfl q2 d_Model_becomes_126 <|
    am_aload_n d_Model_becomes_127 rfl (i := 0) rfl <|
    am_dupR d_Model_becomes_128 <|
    am_getI (ci := 10) (i := 5) rfl rfl rfl (Nat.le_of_ble_eq_true rfl) w_1323 d_Model_becomes_129 <|
    am_iconst (v := 1) d_Model_becomes_132 (by decide) <|
    am_iadd d_Model_becomes_133 <|
    am_putI (ci := 10) (i := 5) rfl rfl rfl (Nat.le_of_ble_eq_true rfl) w_1323 rfl rfl rfl d_Model_becomes_134 <|
    am_aload_n d_Model_becomes_137 rfl (i := 0) rfl <|
    am_aload_n d_Model_becomes_138 rfl (i := 0) rfl <|
    am_getI (ci := 10) (i := 5) rfl rfl rfl (Nat.le_of_ble_eq_true rfl) w_1323 d_Model_becomes_139 <|
    am_putI (ci := 10) (i := 4) rfl rfl rfl (Nat.le_of_ble_eq_true rfl) w_1322 rfl rfl rfl d_Model_becomes_142 <|
    am_aload_n d_Model_becomes_145 rfl (i := 0) rfl <|
    am_getR (ci := 10) (i := 0) rfl rfl rfl (Nat.le_of_ble_eq_true rfl) w_1318 d_Model_becomes_146 <|
    am_iload_n d_Model_becomes_149 rfl (i := 1) rfl <|
    am_iload_n d_Model_becomes_150 rfl (i := 2) rfl <|
    am_iast rfl q3 d_Model_becomes_151 <|
    am_iload_n d_Model_becomes_152 rfl (i := 3) rfl <|
    am_iret rfl d_Model_becomes_153 q
theorem t_Model_becomes_97 {d : Nat} {x1 : Int32} {x2 : Int32} {x3 : Int32} {h : am_H} {Q : am_Q} {res : Int32 × am_H} (e : f_Model_becomes_97 h x1 x2 x3 = some res) (q : Q (some (.int res.1)) res.2) : am_W (X_Model_becomes d) 97 [some (.ref 0), some (.int x1), some (.int x2), some (.int x3), none] [] h Q :=
  b_Model_becomes_97 (d := d) (q0 := (am_okv (am_gd e))) (q1 := (am_okv (am_gd (am_ga e)))) (q2 := (am_okv (am_gd (am_ga (am_ga e))))) (q3 := (am_okv (am_gd (am_ga (am_ga (am_ga e)))))) (q := (am_rIpi (v := x3) (am_ga (am_ga (am_ga (am_ga e)))) q))
theorem t_Model_becomes_87 {d : Nat} {x1 : Int32} {x2 : Int32} {x3 : Int32} {x4 : Int32} {h : am_H} {Q : am_Q} {res : Int32 × am_H} (e : f_Model_becomes_87 h x1 x2 x3 = some res) (q : Q (some (.int res.1)) res.2) : am_W (X_Model_becomes d) 87 [some (.ref 0), some (.int x1), some (.int x2), some (.int x3), some (.int x4)] [] h Q :=
  b_Model_becomes_87 (d := d) (k := (am_wk2 (t_Model_becomes_97 e q) ⟨rfl, ⟨rfl, ⟨rfl, ⟨rfl, trivial⟩⟩⟩⟩))
theorem t_Model_becomes_33 {d : Nat} {k26 : am_H → Int32 → Int32 → Int32 → Int32 → Option (Int32 × am_H)} {x1 : Int32} {x2 : Int32} {x3 : Int32} {x4 : Int32} {h : am_H} {Q : am_Q} {res : Int32 × am_H} (hk26 : ∀ (x1 : Int32) (x2 : Int32) (x3 : Int32) (x4 : Int32) (h : am_H), k26 h x1 x2 x3 x4 = some res → am_W (X_Model_becomes d) 26 [some (.ref 0), some (.int x1), some (.int x2), some (.int x3), some (.int x4)] [] h Q) (e : f_Model_becomes_33 k26 h x1 x2 x3 x4 = some res) (q : Q (some (.int res.1)) res.2) : am_W (X_Model_becomes d) 33 [some (.ref 0), some (.int x1), some (.int x2), some (.int x3), some (.int x4)] [] h Q :=
  b_Model_becomes_33 (d := d) (q0 := (am_okv (am_gd e))) (q1 := (am_okv (am_gd (am_ga e)))) (k := (hk26 _ _ _ _ _ (am_ga (am_ga e))))
theorem t_Model_becomes_26 {d : Nat} {k26 : am_H → Int32 → Int32 → Int32 → Int32 → Option (Int32 × am_H)} {x1 : Int32} {x2 : Int32} {x3 : Int32} {x4 : Int32} {h : am_H} {Q : am_Q} {res : Int32 × am_H} (hk26 : ∀ (x1 : Int32) (x2 : Int32) (x3 : Int32) (x4 : Int32) (h : am_H), k26 h x1 x2 x3 x4 = some res → am_W (X_Model_becomes d) 26 [some (.ref 0), some (.int x1), some (.int x2), some (.int x3), some (.int x4)] [] h Q) (e : f_Model_becomes_26 k26 h x1 x2 x3 x4 = some res) (q : Q (some (.int res.1)) res.2) : am_W (X_Model_becomes d) 26 [some (.ref 0), some (.int x1), some (.int x2), some (.int x3), some (.int x4)] [] h Q :=
  b_Model_becomes_26 (d := d) (kt := fun c => (t_Model_becomes_87 (am_ift e c) q)) (kf := fun c => (t_Model_becomes_33 hk26 (am_ife e c) q))
theorem t_Model_becomes_26_l {d : Nat} {Q : am_Q} {res : Int32 × am_H} (q : Q (some (.int res.1)) res.2) : ∀ (n : Nat) (x1 : Int32) (x2 : Int32) (x3 : Int32) (x4 : Int32) (h : am_H), f_Model_becomes_26_l n h x1 x2 x3 x4 = some res → am_W (X_Model_becomes d) 26 [some (.ref 0), some (.int x1), some (.int x2), some (.int x3), some (.int x4)] [] h Q := by
  intro n
  induction n with
  | zero => intro x1 x2 x3 x4 h e; exact am_nn e
  | succ n ih => intro x1 x2 x3 x4 h e; exact t_Model_becomes_26 (fun x1 x2 x3 x4 h e => ih x1 x2 x3 x4 h  e) e q
theorem t_Model_becomes_23 {d : Nat} {x1 : Int32} {x2 : Int32} {x3 : Int32} {h : am_H} {Q : am_Q} {res : Int32 × am_H} (e : f_Model_becomes_23 h x1 x2 x3 = some res) (q : Q (some (.int res.1)) res.2) : am_W (X_Model_becomes d) 23 [some (.ref 0), some (.int x1), some (.int x2), some (.int x3), none] [] h Q :=
  b_Model_becomes_23 (d := d) (k := (t_Model_becomes_26_l q am_fu _ _ _ _ _ e))
theorem t_Model_becomes_14 {d : Nat} {x1 : Int32} {x2 : Int32} {x3 : Int32} {h : am_H} {Q : am_Q} {res : Int32 × am_H} (e : f_Model_becomes_14 h x1 x2 x3 = some res) (q : Q (some (.int res.1)) res.2) : am_W (X_Model_becomes d) 14 [some (.ref 0), some (.int x1), some (.int x2), some (.int x3), none] [] h Q :=
  b_Model_becomes_14 (d := d) (kt := fun c => (t_Model_becomes_97 (am_ife e c) q)) (kf := fun c => (t_Model_becomes_23 (am_ift e c) q))
theorem t_Model_becomes_12 {d : Nat} {x1 : Int32} {x2 : Int32} {x3 : Int32} {h : am_H} {Q : am_Q} {res : Int32 × am_H} (e : f_Model_becomes_12 h x3 = some res) (q : Q (some (.int res.1)) res.2) : am_W (X_Model_becomes d) 12 [some (.ref 0), some (.int x1), some (.int x2), some (.int x3), none] [] h Q :=
  b_Model_becomes_12 (d := d) (q := (am_rIpi (v := x3) e q))
theorem t_Model_becomes_0 {d : Nat} {x1 : Int32} {x2 : Int32} {h : am_H} {Q : am_Q} {res : Int32 × am_H} (e : f_Model_becomes h x1 x2 = some res) (q : Q (some (.int res.1)) res.2) : am_W (X_Model_becomes d) 0 [some (.ref 0), some (.int x1), some (.int x2), none, none] [] h Q :=
  b_Model_becomes_0 (d := d) (q0 := (am_okv (am_gd e))) (kt := fun c => (t_Model_becomes_14 (am_ife (am_ga e) c) q)) (kf := fun c => (t_Model_becomes_12 (am_ift (am_ga e) c) q))
theorem c_Model_becomes {d : Nat} {x1 : Int32} {x2 : Int32} {h : am_H} {Q : am_Q} {res : Int32 × am_H} (e : f_Model_becomes h x1 x2 = some res) (q : Q (some (.int res.1)) res.2) : m_Model_becomes d [.ref 0, .int x1, .int x2] h Q :=
  e_Model_becomes (t_Model_becomes_0 e q)
theorem d_Model_undo_0 : decode prog_12_method_5_code 0 = .ok (.aload_n 0, 1) := by decide +kernel
theorem d_Model_undo_1 : decode prog_12_method_5_code 1 = .ok (.getfield 74, 3) := by decide +kernel
theorem d_Model_undo_4 : decode prog_12_method_5_code 4 = .ok (.ifCond .ne 6, 3) := by decide +kernel
theorem d_Model_undo_7 : decode prog_12_method_5_code 7 = .ok (.bipush (-5), 2) := by decide +kernel
theorem d_Model_undo_9 : decode prog_12_method_5_code 9 = .ok (.ireturn, 1) := by decide +kernel
theorem d_Model_undo_10 : decode prog_12_method_5_code 10 = .ok (.aload_n 0, 1) := by decide +kernel
theorem d_Model_undo_11 : decode prog_12_method_5_code 11 = .ok (.dup, 1) := by decide +kernel
theorem d_Model_undo_12 : decode prog_12_method_5_code 12 = .ok (.getfield 74, 3) := by decide +kernel
theorem d_Model_undo_15 : decode prog_12_method_5_code 15 = .ok (.iconst 1, 1) := by decide +kernel
theorem d_Model_undo_16 : decode prog_12_method_5_code 16 = .ok (.isub, 1) := by decide +kernel
theorem d_Model_undo_17 : decode prog_12_method_5_code 17 = .ok (.putfield 74, 3) := by decide +kernel
theorem d_Model_undo_20 : decode prog_12_method_5_code 20 = .ok (.aload_n 0, 1) := by decide +kernel
theorem d_Model_undo_21 : decode prog_12_method_5_code 21 = .ok (.getfield 11, 3) := by decide +kernel
theorem d_Model_undo_24 : decode prog_12_method_5_code 24 = .ok (.aload_n 0, 1) := by decide +kernel
theorem d_Model_undo_25 : decode prog_12_method_5_code 25 = .ok (.getfield 15, 3) := by decide +kernel
theorem d_Model_undo_28 : decode prog_12_method_5_code 28 = .ok (.aload_n 0, 1) := by decide +kernel
theorem d_Model_undo_29 : decode prog_12_method_5_code 29 = .ok (.getfield 74, 3) := by decide +kernel
theorem d_Model_undo_32 : decode prog_12_method_5_code 32 = .ok (.iaload, 1) := by decide +kernel
theorem d_Model_undo_33 : decode prog_12_method_5_code 33 = .ok (.aload_n 0, 1) := by decide +kernel
theorem d_Model_undo_34 : decode prog_12_method_5_code 34 = .ok (.getfield 18, 3) := by decide +kernel
theorem d_Model_undo_37 : decode prog_12_method_5_code 37 = .ok (.aload_n 0, 1) := by decide +kernel
theorem d_Model_undo_38 : decode prog_12_method_5_code 38 = .ok (.getfield 74, 3) := by decide +kernel
theorem d_Model_undo_41 : decode prog_12_method_5_code 41 = .ok (.iaload, 1) := by decide +kernel
theorem d_Model_undo_42 : decode prog_12_method_5_code 42 = .ok (.iastore, 1) := by decide +kernel
theorem d_Model_undo_43 : decode prog_12_method_5_code 43 = .ok (.aload_n 0, 1) := by decide +kernel
theorem d_Model_undo_44 : decode prog_12_method_5_code 44 = .ok (.getfield 74, 3) := by decide +kernel
theorem d_Model_undo_47 : decode prog_12_method_5_code 47 = .ok (.ireturn, 1) := by decide +kernel
theorem b_Model_undo_0 {d : Nat} {h : am_H} {Q : am_Q} (kt : ¬ (h.1 0 5) = 0 → am_W (X_Model_undo d) 10 [some (.ref 0)] [] h Q) (kf : (h.1 0 5) = 0 → am_W (X_Model_undo d) 7 [some (.ref 0)] [] h Q) : am_W (X_Model_undo d) 0 [some (.ref 0)] [] h Q :=
  am_aload_n d_Model_undo_0 rfl (i := 0) rfl <|
    am_getI (ci := 10) (i := 5) rfl rfl rfl (Nat.le_of_ble_eq_true rfl) w_1323 d_Model_undo_1 <|
    am_if_ne (tgt := 10) d_Model_undo_4 (by decide) kt kf
theorem b_Model_undo_7 {d : Nat} {h : am_H} {Q : am_Q} (q : Q (some (.int (-5))) h) : am_W (X_Model_undo d) 7 [some (.ref 0)] [] h Q :=
  am_bipush (v := (-5)) d_Model_undo_7 (by decide) <|
    am_iret rfl d_Model_undo_9 q
theorem b_Model_undo_10 {d : Nat} {h : am_H} {Q : am_Q} (q0 : vp_in ((am_pI h 0 5 ((h.1 0 5) - 1)).1 0 5) 40) (q1 : vp_in ((am_pI h 0 5 ((h.1 0 5) - 1)).1 2 ((am_pI h 0 5 ((h.1 0 5) - 1)).1 0 5).toNatClampNeg) 54) (q : Q (some (.int ((am_pI (am_pI h 0 5 ((h.1 0 5) - 1)) 1 ((am_pI h 0 5 ((h.1 0 5) - 1)).1 2 ((am_pI h 0 5 ((h.1 0 5) - 1)).1 0 5).toNatClampNeg).toNatClampNeg ((am_pI h 0 5 ((h.1 0 5) - 1)).1 3 ((am_pI h 0 5 ((h.1 0 5) - 1)).1 0 5).toNatClampNeg)).1 0 5))) (am_pI (am_pI h 0 5 ((h.1 0 5) - 1)) 1 ((am_pI h 0 5 ((h.1 0 5) - 1)).1 2 ((am_pI h 0 5 ((h.1 0 5) - 1)).1 0 5).toNatClampNeg).toNatClampNeg ((am_pI h 0 5 ((h.1 0 5) - 1)).1 3 ((am_pI h 0 5 ((h.1 0 5) - 1)).1 0 5).toNatClampNeg))) : am_W (X_Model_undo d) 10 [some (.ref 0)] [] h Q :=
  am_aload_n d_Model_undo_10 rfl (i := 0) rfl <|
    am_dupR d_Model_undo_11 <|
    am_getI (ci := 10) (i := 5) rfl rfl rfl (Nat.le_of_ble_eq_true rfl) w_1323 d_Model_undo_12 <|
    am_iconst (v := 1) d_Model_undo_15 (by decide) <|
    am_isub d_Model_undo_16 <|
    am_putI (ci := 10) (i := 5) rfl rfl rfl (Nat.le_of_ble_eq_true rfl) w_1323 rfl rfl rfl d_Model_undo_17 <|
    am_aload_n d_Model_undo_20 rfl (i := 0) rfl <|
    am_getR (ci := 10) (i := 0) rfl rfl rfl (Nat.le_of_ble_eq_true rfl) w_1318 d_Model_undo_21 <|
    am_aload_n d_Model_undo_24 rfl (i := 0) rfl <|
    am_getR (ci := 10) (i := 1) rfl rfl rfl (Nat.le_of_ble_eq_true rfl) w_1319 d_Model_undo_25 <|
    am_aload_n d_Model_undo_28 rfl (i := 0) rfl <|
    am_getI (ci := 10) (i := 5) rfl rfl rfl (Nat.le_of_ble_eq_true rfl) w_1323 d_Model_undo_29 <|
    am_iald rfl q0 d_Model_undo_32 <|
    am_aload_n d_Model_undo_33 rfl (i := 0) rfl <|
    am_getR (ci := 10) (i := 2) rfl rfl rfl (Nat.le_of_ble_eq_true rfl) w_1320 d_Model_undo_34 <|
    am_aload_n d_Model_undo_37 rfl (i := 0) rfl <|
    am_getI (ci := 10) (i := 5) rfl rfl rfl (Nat.le_of_ble_eq_true rfl) w_1323 d_Model_undo_38 <|
    am_iald rfl q0 d_Model_undo_41 <|
    am_iast rfl q1 d_Model_undo_42 <|
    am_aload_n d_Model_undo_43 rfl (i := 0) rfl <|
    am_getI (ci := 10) (i := 5) rfl rfl rfl (Nat.le_of_ble_eq_true rfl) w_1323 d_Model_undo_44 <|
    am_iret rfl d_Model_undo_47 q
theorem t_Model_undo_10 {d : Nat} {h : am_H} {Q : am_Q} {res : Int32 × am_H} (e : f_Model_undo_10 h = some res) (q : Q (some (.int res.1)) res.2) : am_W (X_Model_undo d) 10 [some (.ref 0)] [] h Q :=
  b_Model_undo_10 (d := d) (q0 := (am_okv (am_gd e))) (q1 := (am_okv (am_gd (am_ga e)))) (q := (am_rIpi (v := ((am_pI (am_pI h 0 5 ((h.1 0 5) - 1)) 1 ((am_pI h 0 5 ((h.1 0 5) - 1)).1 2 ((am_pI h 0 5 ((h.1 0 5) - 1)).1 0 5).toNatClampNeg).toNatClampNeg ((am_pI h 0 5 ((h.1 0 5) - 1)).1 3 ((am_pI h 0 5 ((h.1 0 5) - 1)).1 0 5).toNatClampNeg)).1 0 5)) (am_ga (am_ga e)) q))
theorem t_Model_undo_7 {d : Nat} {h : am_H} {Q : am_Q} {res : Int32 × am_H} (e : f_Model_undo_7 h = some res) (q : Q (some (.int res.1)) res.2) : am_W (X_Model_undo d) 7 [some (.ref 0)] [] h Q :=
  b_Model_undo_7 (d := d) (q := (am_rIpi (v := (-5)) e q))
theorem t_Model_undo_0 {d : Nat} {h : am_H} {Q : am_Q} {res : Int32 × am_H} (e : f_Model_undo h = some res) (q : Q (some (.int res.1)) res.2) : am_W (X_Model_undo d) 0 [some (.ref 0)] [] h Q :=
  b_Model_undo_0 (d := d) (kt := fun c => (t_Model_undo_10 (am_ife e c) q)) (kf := fun c => (t_Model_undo_7 (am_ift e c) q))
theorem c_Model_undo {d : Nat} {h : am_H} {Q : am_Q} {res : Int32 × am_H} (e : f_Model_undo h = some res) (q : Q (some (.int res.1)) res.2) : m_Model_undo d [.ref 0] h Q :=
  e_Model_undo (t_Model_undo_0 e q)
theorem d_Model_redo_0 : decode prog_12_method_6_code 0 = .ok (.aload_n 0, 1) := by decide +kernel
theorem d_Model_redo_1 : decode prog_12_method_6_code 1 = .ok (.getfield 74, 3) := by decide +kernel
theorem d_Model_redo_4 : decode prog_12_method_6_code 4 = .ok (.aload_n 0, 1) := by decide +kernel
theorem d_Model_redo_5 : decode prog_12_method_6_code 5 = .ok (.getfield 77, 3) := by decide +kernel
theorem d_Model_redo_8 : decode prog_12_method_6_code 8 = .ok (.if_icmp .ne 6, 3) := by decide +kernel
theorem d_Model_redo_11 : decode prog_12_method_6_code 11 = .ok (.bipush (-5), 2) := by decide +kernel
theorem d_Model_redo_13 : decode prog_12_method_6_code 13 = .ok (.ireturn, 1) := by decide +kernel
theorem d_Model_redo_14 : decode prog_12_method_6_code 14 = .ok (.aload_n 0, 1) := by decide +kernel
theorem d_Model_redo_15 : decode prog_12_method_6_code 15 = .ok (.getfield 11, 3) := by decide +kernel
theorem d_Model_redo_18 : decode prog_12_method_6_code 18 = .ok (.aload_n 0, 1) := by decide +kernel
theorem d_Model_redo_19 : decode prog_12_method_6_code 19 = .ok (.getfield 15, 3) := by decide +kernel
theorem d_Model_redo_22 : decode prog_12_method_6_code 22 = .ok (.aload_n 0, 1) := by decide +kernel
theorem d_Model_redo_23 : decode prog_12_method_6_code 23 = .ok (.getfield 74, 3) := by decide +kernel
theorem d_Model_redo_26 : decode prog_12_method_6_code 26 = .ok (.iaload, 1) := by decide +kernel
theorem d_Model_redo_27 : decode prog_12_method_6_code 27 = .ok (.aload_n 0, 1) := by decide +kernel
theorem d_Model_redo_28 : decode prog_12_method_6_code 28 = .ok (.getfield 21, 3) := by decide +kernel
theorem d_Model_redo_31 : decode prog_12_method_6_code 31 = .ok (.aload_n 0, 1) := by decide +kernel
theorem d_Model_redo_32 : decode prog_12_method_6_code 32 = .ok (.getfield 74, 3) := by decide +kernel
theorem d_Model_redo_35 : decode prog_12_method_6_code 35 = .ok (.iaload, 1) := by decide +kernel
theorem d_Model_redo_36 : decode prog_12_method_6_code 36 = .ok (.iastore, 1) := by decide +kernel
theorem d_Model_redo_37 : decode prog_12_method_6_code 37 = .ok (.aload_n 0, 1) := by decide +kernel
theorem d_Model_redo_38 : decode prog_12_method_6_code 38 = .ok (.dup, 1) := by decide +kernel
theorem d_Model_redo_39 : decode prog_12_method_6_code 39 = .ok (.getfield 74, 3) := by decide +kernel
theorem d_Model_redo_42 : decode prog_12_method_6_code 42 = .ok (.iconst 1, 1) := by decide +kernel
theorem d_Model_redo_43 : decode prog_12_method_6_code 43 = .ok (.iadd, 1) := by decide +kernel
theorem d_Model_redo_44 : decode prog_12_method_6_code 44 = .ok (.putfield 74, 3) := by decide +kernel
theorem d_Model_redo_47 : decode prog_12_method_6_code 47 = .ok (.aload_n 0, 1) := by decide +kernel
theorem d_Model_redo_48 : decode prog_12_method_6_code 48 = .ok (.getfield 77, 3) := by decide +kernel
theorem d_Model_redo_51 : decode prog_12_method_6_code 51 = .ok (.aload_n 0, 1) := by decide +kernel
theorem d_Model_redo_52 : decode prog_12_method_6_code 52 = .ok (.getfield 74, 3) := by decide +kernel
theorem d_Model_redo_55 : decode prog_12_method_6_code 55 = .ok (.isub, 1) := by decide +kernel
theorem d_Model_redo_56 : decode prog_12_method_6_code 56 = .ok (.ireturn, 1) := by decide +kernel
theorem b_Model_redo_0 {d : Nat} {h : am_H} {Q : am_Q} (kt : ¬ (h.1 0 5) = (h.1 0 4) → am_W (X_Model_redo d) 14 [some (.ref 0)] [] h Q) (kf : (h.1 0 5) = (h.1 0 4) → am_W (X_Model_redo d) 11 [some (.ref 0)] [] h Q) : am_W (X_Model_redo d) 0 [some (.ref 0)] [] h Q :=
  am_aload_n d_Model_redo_0 rfl (i := 0) rfl <|
    am_getI (ci := 10) (i := 5) rfl rfl rfl (Nat.le_of_ble_eq_true rfl) w_1323 d_Model_redo_1 <|
    am_aload_n d_Model_redo_4 rfl (i := 0) rfl <|
    am_getI (ci := 10) (i := 4) rfl rfl rfl (Nat.le_of_ble_eq_true rfl) w_1322 d_Model_redo_5 <|
    am_icmp_ne (tgt := 14) d_Model_redo_8 (by decide) kt kf
theorem b_Model_redo_11 {d : Nat} {h : am_H} {Q : am_Q} (q : Q (some (.int (-5))) h) : am_W (X_Model_redo d) 11 [some (.ref 0)] [] h Q :=
  am_bipush (v := (-5)) d_Model_redo_11 (by decide) <|
    am_iret rfl d_Model_redo_13 q
theorem b_Model_redo_14 {d : Nat} {h : am_H} {Q : am_Q} (q0 : vp_in (h.1 0 5) 40) (q1 : vp_in (h.1 2 (h.1 0 5).toNatClampNeg) 54) (q : Q (some (.int (((am_pI (am_pI h 1 (h.1 2 (h.1 0 5).toNatClampNeg).toNatClampNeg (h.1 4 (h.1 0 5).toNatClampNeg)) 0 5 (((am_pI h 1 (h.1 2 (h.1 0 5).toNatClampNeg).toNatClampNeg (h.1 4 (h.1 0 5).toNatClampNeg)).1 0 5) + 1)).1 0 4) - ((am_pI (am_pI h 1 (h.1 2 (h.1 0 5).toNatClampNeg).toNatClampNeg (h.1 4 (h.1 0 5).toNatClampNeg)) 0 5 (((am_pI h 1 (h.1 2 (h.1 0 5).toNatClampNeg).toNatClampNeg (h.1 4 (h.1 0 5).toNatClampNeg)).1 0 5) + 1)).1 0 5)))) (am_pI (am_pI h 1 (h.1 2 (h.1 0 5).toNatClampNeg).toNatClampNeg (h.1 4 (h.1 0 5).toNatClampNeg)) 0 5 (((am_pI h 1 (h.1 2 (h.1 0 5).toNatClampNeg).toNatClampNeg (h.1 4 (h.1 0 5).toNatClampNeg)).1 0 5) + 1))) : am_W (X_Model_redo d) 14 [some (.ref 0)] [] h Q :=
  am_aload_n d_Model_redo_14 rfl (i := 0) rfl <|
    am_getR (ci := 10) (i := 0) rfl rfl rfl (Nat.le_of_ble_eq_true rfl) w_1318 d_Model_redo_15 <|
    am_aload_n d_Model_redo_18 rfl (i := 0) rfl <|
    am_getR (ci := 10) (i := 1) rfl rfl rfl (Nat.le_of_ble_eq_true rfl) w_1319 d_Model_redo_19 <|
    am_aload_n d_Model_redo_22 rfl (i := 0) rfl <|
    am_getI (ci := 10) (i := 5) rfl rfl rfl (Nat.le_of_ble_eq_true rfl) w_1323 d_Model_redo_23 <|
    am_iald rfl q0 d_Model_redo_26 <|
    am_aload_n d_Model_redo_27 rfl (i := 0) rfl <|
    am_getR (ci := 10) (i := 3) rfl rfl rfl (Nat.le_of_ble_eq_true rfl) w_1321 d_Model_redo_28 <|
    am_aload_n d_Model_redo_31 rfl (i := 0) rfl <|
    am_getI (ci := 10) (i := 5) rfl rfl rfl (Nat.le_of_ble_eq_true rfl) w_1323 d_Model_redo_32 <|
    am_iald rfl q0 d_Model_redo_35 <|
    am_iast rfl q1 d_Model_redo_36 <|
    am_aload_n d_Model_redo_37 rfl (i := 0) rfl <|
    am_dupR d_Model_redo_38 <|
    am_getI (ci := 10) (i := 5) rfl rfl rfl (Nat.le_of_ble_eq_true rfl) w_1323 d_Model_redo_39 <|
    am_iconst (v := 1) d_Model_redo_42 (by decide) <|
    am_iadd d_Model_redo_43 <|
    am_putI (ci := 10) (i := 5) rfl rfl rfl (Nat.le_of_ble_eq_true rfl) w_1323 rfl rfl rfl d_Model_redo_44 <|
    am_aload_n d_Model_redo_47 rfl (i := 0) rfl <|
    am_getI (ci := 10) (i := 4) rfl rfl rfl (Nat.le_of_ble_eq_true rfl) w_1322 d_Model_redo_48 <|
    am_aload_n d_Model_redo_51 rfl (i := 0) rfl <|
    am_getI (ci := 10) (i := 5) rfl rfl rfl (Nat.le_of_ble_eq_true rfl) w_1323 d_Model_redo_52 <|
    am_isub d_Model_redo_55 <|
    am_iret rfl d_Model_redo_56 q
theorem t_Model_redo_14 {d : Nat} {h : am_H} {Q : am_Q} {res : Int32 × am_H} (e : f_Model_redo_14 h = some res) (q : Q (some (.int res.1)) res.2) : am_W (X_Model_redo d) 14 [some (.ref 0)] [] h Q :=
  b_Model_redo_14 (d := d) (q0 := (am_okv (am_gd e))) (q1 := (am_okv (am_gd (am_ga e)))) (q := (am_rIpi (v := (((am_pI (am_pI h 1 (h.1 2 (h.1 0 5).toNatClampNeg).toNatClampNeg (h.1 4 (h.1 0 5).toNatClampNeg)) 0 5 (((am_pI h 1 (h.1 2 (h.1 0 5).toNatClampNeg).toNatClampNeg (h.1 4 (h.1 0 5).toNatClampNeg)).1 0 5) + 1)).1 0 4) - ((am_pI (am_pI h 1 (h.1 2 (h.1 0 5).toNatClampNeg).toNatClampNeg (h.1 4 (h.1 0 5).toNatClampNeg)) 0 5 (((am_pI h 1 (h.1 2 (h.1 0 5).toNatClampNeg).toNatClampNeg (h.1 4 (h.1 0 5).toNatClampNeg)).1 0 5) + 1)).1 0 5))) (am_ga (am_ga e)) q))
theorem t_Model_redo_11 {d : Nat} {h : am_H} {Q : am_Q} {res : Int32 × am_H} (e : f_Model_redo_11 h = some res) (q : Q (some (.int res.1)) res.2) : am_W (X_Model_redo d) 11 [some (.ref 0)] [] h Q :=
  b_Model_redo_11 (d := d) (q := (am_rIpi (v := (-5)) e q))
theorem t_Model_redo_0 {d : Nat} {h : am_H} {Q : am_Q} {res : Int32 × am_H} (e : f_Model_redo h = some res) (q : Q (some (.int res.1)) res.2) : am_W (X_Model_redo d) 0 [some (.ref 0)] [] h Q :=
  b_Model_redo_0 (d := d) (kt := fun c => (t_Model_redo_14 (am_ife e c) q)) (kf := fun c => (t_Model_redo_11 (am_ift e c) q))
theorem c_Model_redo {d : Nat} {h : am_H} {Q : am_Q} {res : Int32 × am_H} (e : f_Model_redo h = some res) (q : Q (some (.int res.1)) res.2) : m_Model_redo d [.ref 0] h Q :=
  e_Model_redo (t_Model_redo_0 e q)
theorem d_Model_isClub_0 : decode prog_12_method_7_code 0 = .ok (.lload_n 1, 1) := by decide +kernel
theorem d_Model_isClub_1 : decode prog_12_method_7_code 1 = .ok (.lconst 0, 1) := by decide +kernel
theorem d_Model_isClub_2 : decode prog_12_method_7_code 2 = .ok (.aload_n 0, 1) := by decide +kernel
theorem d_Model_isClub_3 : decode prog_12_method_7_code 3 = .ok (.getfield 80, 3) := by decide +kernel
theorem d_Model_isClub_6 : decode prog_12_method_7_code 6 = .ok (.iconst 1, 1) := by decide +kernel
theorem d_Model_isClub_7 : decode prog_12_method_7_code 7 = .ok (.isub, 1) := by decide +kernel
theorem d_Model_isClub_8 : decode prog_12_method_7_code 8 = .ok (.i2l, 1) := by decide +kernel
theorem d_Model_isClub_9 : decode prog_12_method_7_code 9 = .ok (.invokestatic 83, 3) := by decide +kernel
theorem d_Model_isClub_12 : decode prog_12_method_7_code 12 = .ok (.ireturn, 1) := by decide +kernel
theorem b_Model_isClub_0 {d : Nat} {x1 : Int64} {h : am_H} {Q : am_Q} (k : m_Model_within d [.long x1, .long 0, .long (((h.1 0 6) - 1).toInt64)] h (fun r hh => am_W (X_Model_isClub (d + 1)) 12 [some (.ref 0), some (.long x1), none] (r.toList ++ []) hh Q)) : am_W (X_Model_isClub (d + 1)) 0 [some (.ref 0), some (.long x1), none] [] h Q :=
  am_lload_n d_Model_isClub_0 rfl (i := 1) rfl <|
    am_lconst (v := 0) d_Model_isClub_1 (by decide) <|
    am_aload_n d_Model_isClub_2 rfl (i := 0) rfl <|
    am_getI (ci := 10) (i := 6) rfl rfl rfl (Nat.le_of_ble_eq_true rfl) w_1324 d_Model_isClub_3 <|
    am_iconst (v := 1) d_Model_isClub_6 (by decide) <|
    am_isub d_Model_isClub_7 <|
    am_i2l d_Model_isClub_8 <|
    am_callS (vs := [.long x1, .long 0, .long (((h.1 0 6) - 1).toInt64)]) (st := []) rfl d_Model_isClub_9 w_1443 w_1444 w_94 w_1445 p_Model_within (Nat.le_of_ble_eq_true rfl) (Nat.le_of_ble_eq_true rfl) rfl k
theorem b_Model_isClub_12 {d : Nat} {x1 : Int64} {y0 : Bool} {h : am_H} {Q : am_Q} (q : Q (some (.int (am_b y0))) h) : am_W (X_Model_isClub d) 12 [some (.ref 0), some (.long x1), none] [.int (am_b y0)] h Q :=
  am_zret (ty := .boolean) rfl am_nb d_Model_isClub_12 q
theorem t_Model_isClub_12 {d : Nat} {x1 : Int64} {y0 : Bool} {h : am_H} {Q : am_Q} {res : Bool} (e : f_Model_isClub_12 h y0 = res) (q : Q (some (.int (am_b res))) h) : am_W (X_Model_isClub (d + 1)) 12 [some (.ref 0), some (.long x1), none] [.int (am_b y0)] h Q :=
  b_Model_isClub_12 (d := (d + 1)) (q := (am_rZt (v := y0) e q))
theorem t_Model_isClub_0 {d : Nat} {x1 : Int64} {h : am_H} {Q : am_Q} {res : Bool} (e : f_Model_isClub h x1 = res) (q : Q (some (.int (am_b res))) h) : am_W (X_Model_isClub (d + 1)) 0 [some (.ref 0), some (.long x1), none] [] h Q :=
  b_Model_isClub_0 (d := d) (k := c_Model_within (d := d) rfl (t_Model_isClub_12 e q))
theorem c_Model_isClub {d : Nat} {x1 : Int64} {h : am_H} {Q : am_Q} {res : Bool} (e : f_Model_isClub h x1 = res) (q : Q (some (.int (am_b res))) h) : m_Model_isClub (d + 1) [.ref 0, .long x1] h Q :=
  e_Model_isClub (t_Model_isClub_0 e q)
theorem d_Model_isCell_0 : decode prog_12_method_8_code 0 = .ok (.lload_n 0, 1) := by decide +kernel
theorem d_Model_isCell_1 : decode prog_12_method_8_code 1 = .ok (.lconst 0, 1) := by decide +kernel
theorem d_Model_isCell_2 : decode prog_12_method_8_code 2 = .ok (.ldc2_w 87, 3) := by decide +kernel
theorem d_Model_isCell_5 : decode prog_12_method_8_code 5 = .ok (.invokestatic 83, 3) := by decide +kernel
theorem d_Model_isCell_8 : decode prog_12_method_8_code 8 = .ok (.ireturn, 1) := by decide +kernel
theorem b_Model_isCell_0 {d : Nat} {x0 : Int64} {h : am_H} {Q : am_Q} (k : m_Model_within d [.long x0, .long 0, .long 30] h (fun r hh => am_W (X_Model_isCell (d + 1)) 8 [some (.long x0), none] (r.toList ++ []) hh Q)) : am_W (X_Model_isCell (d + 1)) 0 [some (.long x0), none] [] h Q :=
  am_lload_n d_Model_isCell_0 rfl (i := 0) rfl <|
    am_lconst (v := 0) d_Model_isCell_1 (by decide) <|
    am_ldc2 (v := 30) d_Model_isCell_2 w_1442 <|
    am_callS (vs := [.long x0, .long 0, .long 30]) (st := []) rfl d_Model_isCell_5 w_1443 w_1444 w_94 w_1445 p_Model_within (Nat.le_of_ble_eq_true rfl) (Nat.le_of_ble_eq_true rfl) rfl k
theorem b_Model_isCell_8 {d : Nat} {x0 : Int64} {y0 : Bool} {h : am_H} {Q : am_Q} (q : Q (some (.int (am_b y0))) h) : am_W (X_Model_isCell d) 8 [some (.long x0), none] [.int (am_b y0)] h Q :=
  am_zret (ty := .boolean) rfl am_nb d_Model_isCell_8 q
theorem t_Model_isCell_8 {d : Nat} {x0 : Int64} {y0 : Bool} {h : am_H} {Q : am_Q} {res : Bool} (e : f_Model_isCell_8 y0 = res) (q : Q (some (.int (am_b res))) h) : am_W (X_Model_isCell (d + 1)) 8 [some (.long x0), none] [.int (am_b y0)] h Q :=
  b_Model_isCell_8 (d := (d + 1)) (q := (am_rZt (v := y0) e q))
theorem t_Model_isCell_0 {d : Nat} {x0 : Int64} {h : am_H} {Q : am_Q} {res : Bool} (e : f_Model_isCell x0 = res) (q : Q (some (.int (am_b res))) h) : am_W (X_Model_isCell (d + 1)) 0 [some (.long x0), none] [] h Q :=
  b_Model_isCell_0 (d := d) (k := c_Model_within (d := d) rfl (t_Model_isCell_8 e q))
theorem c_Model_isCell {d : Nat} {x0 : Int64} {h : am_H} {Q : am_Q} {res : Bool} (e : f_Model_isCell x0 = res) (q : Q (some (.int (am_b res))) h) : m_Model_isCell (d + 1) [.long x0] h Q :=
  e_Model_isCell (t_Model_isCell_0 e q)
theorem d_Model_isGreen_0 : decode prog_12_method_9_code 0 = .ok (.aload_n 0, 1) := by decide +kernel
theorem d_Model_isGreen_1 : decode prog_12_method_9_code 1 = .ok (.getfield 11, 3) := by decide +kernel
theorem d_Model_isGreen_4 : decode prog_12_method_9_code 4 = .ok (.iload_n 1, 1) := by decide +kernel
theorem d_Model_isGreen_5 : decode prog_12_method_9_code 5 = .ok (.iaload, 1) := by decide +kernel
theorem d_Model_isGreen_6 : decode prog_12_method_9_code 6 = .ok (.iconst 4, 1) := by decide +kernel
theorem d_Model_isGreen_7 : decode prog_12_method_9_code 7 = .ok (.if_icmp .eq 14, 3) := by decide +kernel
theorem d_Model_isGreen_10 : decode prog_12_method_9_code 10 = .ok (.iload_n 1, 1) := by decide +kernel
theorem d_Model_isGreen_11 : decode prog_12_method_9_code 11 = .ok (.aload_n 0, 1) := by decide +kernel
theorem d_Model_isGreen_12 : decode prog_12_method_9_code 12 = .ok (.getfield 11, 3) := by decide +kernel
theorem d_Model_isGreen_15 : decode prog_12_method_9_code 15 = .ok (.bipush 49, 2) := by decide +kernel
theorem d_Model_isGreen_17 : decode prog_12_method_9_code 17 = .ok (.iaload, 1) := by decide +kernel
theorem d_Model_isGreen_18 : decode prog_12_method_9_code 18 = .ok (.if_icmp .ne 7, 3) := by decide +kernel
theorem d_Model_isGreen_21 : decode prog_12_method_9_code 21 = .ok (.iconst 1, 1) := by decide +kernel
theorem d_Model_isGreen_22 : decode prog_12_method_9_code 22 = .ok (.goto 4, 3) := by decide +kernel
theorem d_Model_isGreen_25 : decode prog_12_method_9_code 25 = .ok (.iconst 0, 1) := by decide +kernel
theorem d_Model_isGreen_26 : decode prog_12_method_9_code 26 = .ok (.ireturn, 1) := by decide +kernel
theorem b_Model_isGreen_0 {d : Nat} {x1 : Int32} {h : am_H} {Q : am_Q} (q0 : vp_in x1 54) (kt : (h.1 1 x1.toNatClampNeg) = 4 → am_W (X_Model_isGreen d) 21 [some (.ref 0), some (.int x1)] [] h Q) (kf : ¬ (h.1 1 x1.toNatClampNeg) = 4 → am_W (X_Model_isGreen d) 10 [some (.ref 0), some (.int x1)] [] h Q) : am_W (X_Model_isGreen d) 0 [some (.ref 0), some (.int x1)] [] h Q :=
  am_aload_n d_Model_isGreen_0 rfl (i := 0) rfl <|
    am_getR (ci := 10) (i := 0) rfl rfl rfl (Nat.le_of_ble_eq_true rfl) w_1318 d_Model_isGreen_1 <|
    am_iload_n d_Model_isGreen_4 rfl (i := 1) rfl <|
    am_iald rfl q0 d_Model_isGreen_5 <|
    am_iconst (v := 4) d_Model_isGreen_6 (by decide) <|
    am_icmp_eq (tgt := 21) d_Model_isGreen_7 (by decide) kt kf
theorem b_Model_isGreen_10 {d : Nat} {x1 : Int32} {h : am_H} {Q : am_Q} (kt : ¬ x1 = (h.1 1 (49 : Int32).toNatClampNeg) → am_W (X_Model_isGreen d) 25 [some (.ref 0), some (.int x1)] [] h Q) (kf : x1 = (h.1 1 (49 : Int32).toNatClampNeg) → am_W (X_Model_isGreen d) 21 [some (.ref 0), some (.int x1)] [] h Q) : am_W (X_Model_isGreen d) 10 [some (.ref 0), some (.int x1)] [] h Q :=
  am_iload_n d_Model_isGreen_10 rfl (i := 1) rfl <|
    am_aload_n d_Model_isGreen_11 rfl (i := 0) rfl <|
    am_getR (ci := 10) (i := 0) rfl rfl rfl (Nat.le_of_ble_eq_true rfl) w_1318 d_Model_isGreen_12 <|
    am_bipush (v := 49) d_Model_isGreen_15 (by decide) <|
    am_iald rfl (am_vin (by decide)) d_Model_isGreen_17 <|
    am_icmp_ne (tgt := 25) d_Model_isGreen_18 (by decide) kt kf
theorem b_Model_isGreen_21 {d : Nat} {x1 : Int32} {h : am_H} {Q : am_Q} (q : Q (some (.int 1)) h) : am_W (X_Model_isGreen d) 21 [some (.ref 0), some (.int x1)] [] h Q :=
  am_iconst (v := 1) d_Model_isGreen_21 (by decide) <|
    am_goto (tgt := 26) d_Model_isGreen_22 (by decide) <|
    am_zret (ty := .boolean) rfl (by decide) d_Model_isGreen_26 q
theorem b_Model_isGreen_25 {d : Nat} {x1 : Int32} {h : am_H} {Q : am_Q} (q : Q (some (.int 0)) h) : am_W (X_Model_isGreen d) 25 [some (.ref 0), some (.int x1)] [] h Q :=
  am_iconst (v := 0) d_Model_isGreen_25 (by decide) <|
    am_zret (ty := .boolean) rfl (by decide) d_Model_isGreen_26 q
theorem t_Model_isGreen_21 {d : Nat} {x1 : Int32} {h : am_H} {Q : am_Q} {res : Bool} (e : f_Model_isGreen_21 h = some res) (q : Q (some (.int (am_b res))) h) : am_W (X_Model_isGreen d) 21 [some (.ref 0), some (.int x1)] [] h Q :=
  b_Model_isGreen_21 (d := d) (q := (am_rZp (v := true) e q))
theorem t_Model_isGreen_25 {d : Nat} {x1 : Int32} {h : am_H} {Q : am_Q} {res : Bool} (e : f_Model_isGreen_25 h = some res) (q : Q (some (.int (am_b res))) h) : am_W (X_Model_isGreen d) 25 [some (.ref 0), some (.int x1)] [] h Q :=
  b_Model_isGreen_25 (d := d) (q := (am_rZp (v := false) e q))
theorem t_Model_isGreen_10 {d : Nat} {x1 : Int32} {h : am_H} {Q : am_Q} {res : Bool} (e : f_Model_isGreen_10 h x1 = some res) (q : Q (some (.int (am_b res))) h) : am_W (X_Model_isGreen d) 10 [some (.ref 0), some (.int x1)] [] h Q :=
  b_Model_isGreen_10 (d := d) (kt := fun c => (t_Model_isGreen_25 (am_ife e c) q)) (kf := fun c => (t_Model_isGreen_21 (am_ift e c) q))
theorem t_Model_isGreen_0 {d : Nat} {x1 : Int32} {h : am_H} {Q : am_Q} {res : Bool} (e : f_Model_isGreen h x1 = some res) (q : Q (some (.int (am_b res))) h) : am_W (X_Model_isGreen d) 0 [some (.ref 0), some (.int x1)] [] h Q :=
  b_Model_isGreen_0 (d := d) (q0 := (am_okv (am_gd e))) (kt := fun c => (t_Model_isGreen_21 (am_ift (am_ga e) c) q)) (kf := fun c => (t_Model_isGreen_10 (am_ife (am_ga e) c) q))
theorem c_Model_isGreen {d : Nat} {x1 : Int32} {h : am_H} {Q : am_Q} {res : Bool} (e : f_Model_isGreen h x1 = some res) (q : Q (some (.int (am_b res))) h) : m_Model_isGreen d [.ref 0, .int x1] h Q :=
  e_Model_isGreen (t_Model_isGreen_0 e q)
theorem d_Model_isWater_0 : decode prog_12_method_10_code 0 = .ok (.aload_n 0, 1) := by decide +kernel
theorem d_Model_isWater_1 : decode prog_12_method_10_code 1 = .ok (.getfield 11, 3) := by decide +kernel
theorem d_Model_isWater_4 : decode prog_12_method_10_code 4 = .ok (.iload_n 1, 1) := by decide +kernel
theorem d_Model_isWater_5 : decode prog_12_method_10_code 5 = .ok (.iaload, 1) := by decide +kernel
theorem d_Model_isWater_6 : decode prog_12_method_10_code 6 = .ok (.iconst 3, 1) := by decide +kernel
theorem d_Model_isWater_7 : decode prog_12_method_10_code 7 = .ok (.if_icmp .ne 15, 3) := by decide +kernel
theorem d_Model_isWater_10 : decode prog_12_method_10_code 10 = .ok (.aload_n 0, 1) := by decide +kernel
theorem d_Model_isWater_11 : decode prog_12_method_10_code 11 = .ok (.iload_n 1, 1) := by decide +kernel
theorem d_Model_isWater_12 : decode prog_12_method_10_code 12 = .ok (.invokevirtual 89, 3) := by decide +kernel
theorem d_Model_isWater_15 : decode prog_12_method_10_code 15 = .ok (.ifCond .ne 7, 3) := by decide +kernel
theorem d_Model_isWater_18 : decode prog_12_method_10_code 18 = .ok (.iconst 1, 1) := by decide +kernel
theorem d_Model_isWater_19 : decode prog_12_method_10_code 19 = .ok (.goto 4, 3) := by decide +kernel
theorem d_Model_isWater_22 : decode prog_12_method_10_code 22 = .ok (.iconst 0, 1) := by decide +kernel
theorem d_Model_isWater_23 : decode prog_12_method_10_code 23 = .ok (.ireturn, 1) := by decide +kernel
theorem b_Model_isWater_0 {d : Nat} {x1 : Int32} {h : am_H} {Q : am_Q} (q0 : vp_in x1 54) (kt : ¬ (h.1 1 x1.toNatClampNeg) = 3 → am_W (X_Model_isWater d) 22 [some (.ref 0), some (.int x1)] [] h Q) (kf : (h.1 1 x1.toNatClampNeg) = 3 → am_W (X_Model_isWater d) 10 [some (.ref 0), some (.int x1)] [] h Q) : am_W (X_Model_isWater d) 0 [some (.ref 0), some (.int x1)] [] h Q :=
  am_aload_n d_Model_isWater_0 rfl (i := 0) rfl <|
    am_getR (ci := 10) (i := 0) rfl rfl rfl (Nat.le_of_ble_eq_true rfl) w_1318 d_Model_isWater_1 <|
    am_iload_n d_Model_isWater_4 rfl (i := 1) rfl <|
    am_iald rfl q0 d_Model_isWater_5 <|
    am_iconst (v := 3) d_Model_isWater_6 (by decide) <|
    am_icmp_ne (tgt := 22) d_Model_isWater_7 (by decide) kt kf
theorem b_Model_isWater_10 {d : Nat} {x1 : Int32} {h : am_H} {Q : am_Q} (k : m_Model_isGreen d [.ref 0, .int x1] h (fun r hh => am_W (X_Model_isWater (d + 1)) 15 [some (.ref 0), some (.int x1)] (r.toList ++ []) hh Q)) : am_W (X_Model_isWater (d + 1)) 10 [some (.ref 0), some (.int x1)] [] h Q :=
  am_aload_n d_Model_isWater_10 rfl (i := 0) rfl <|
    am_iload_n d_Model_isWater_11 rfl (i := 1) rfl <|
    am_callV (vs := [.int x1]) (st := []) (k := 0) (ci := 10) rfl d_Model_isWater_12 rfl rfl w_1550 w_1552 w_49 w_94 w_1553 p_Model_isGreen (Nat.le_of_ble_eq_true rfl) (Nat.le_of_ble_eq_true rfl) rfl k
theorem b_Model_isWater_15 {d : Nat} {x1 : Int32} {y0 : Bool} {h : am_H} {Q : am_Q} (kt : ¬ (am_b y0) = 0 → am_W (X_Model_isWater d) 22 [some (.ref 0), some (.int x1)] [] h Q) (kf : (am_b y0) = 0 → am_W (X_Model_isWater d) 18 [some (.ref 0), some (.int x1)] [] h Q) : am_W (X_Model_isWater d) 15 [some (.ref 0), some (.int x1)] [.int (am_b y0)] h Q :=
  am_if_ne (tgt := 22) d_Model_isWater_15 (by decide) kt kf
theorem b_Model_isWater_18 {d : Nat} {x1 : Int32} {h : am_H} {Q : am_Q} (q : Q (some (.int 1)) h) : am_W (X_Model_isWater d) 18 [some (.ref 0), some (.int x1)] [] h Q :=
  am_iconst (v := 1) d_Model_isWater_18 (by decide) <|
    am_goto (tgt := 23) d_Model_isWater_19 (by decide) <|
    am_zret (ty := .boolean) rfl (by decide) d_Model_isWater_23 q
theorem b_Model_isWater_22 {d : Nat} {x1 : Int32} {h : am_H} {Q : am_Q} (q : Q (some (.int 0)) h) : am_W (X_Model_isWater d) 22 [some (.ref 0), some (.int x1)] [] h Q :=
  am_iconst (v := 0) d_Model_isWater_22 (by decide) <|
    am_zret (ty := .boolean) rfl (by decide) d_Model_isWater_23 q
theorem t_Model_isWater_22 {d : Nat} {x1 : Int32} {h : am_H} {Q : am_Q} {res : Bool} (e : f_Model_isWater_22 h = some res) (q : Q (some (.int (am_b res))) h) : am_W (X_Model_isWater (d + 1)) 22 [some (.ref 0), some (.int x1)] [] h Q :=
  b_Model_isWater_22 (d := (d + 1)) (q := (am_rZp (v := false) e q))
theorem t_Model_isWater_18 {d : Nat} {x1 : Int32} {h : am_H} {Q : am_Q} {res : Bool} (e : f_Model_isWater_18 h = some res) (q : Q (some (.int (am_b res))) h) : am_W (X_Model_isWater (d + 1)) 18 [some (.ref 0), some (.int x1)] [] h Q :=
  b_Model_isWater_18 (d := (d + 1)) (q := (am_rZp (v := true) e q))
theorem t_Model_isWater_15 {d : Nat} {x1 : Int32} {y0 : Bool} {h : am_H} {Q : am_Q} {res : Bool} (e : f_Model_isWater_15 h y0 = some res) (q : Q (some (.int (am_b res))) h) : am_W (X_Model_isWater (d + 1)) 15 [some (.ref 0), some (.int x1)] [.int (am_b y0)] h Q :=
  b_Model_isWater_15 (d := (d + 1)) (kt := fun c => (t_Model_isWater_22 (am_ift e (am_bn c)) q)) (kf := fun c => (t_Model_isWater_18 (am_iff e (am_bz c)) q))
theorem t_Model_isWater_10 {d : Nat} {x1 : Int32} {h : am_H} {Q : am_Q} {res : Bool} (e : f_Model_isWater_10 h x1 = some res) (q : Q (some (.int (am_b res))) h) : am_W (X_Model_isWater (d + 1)) 10 [some (.ref 0), some (.int x1)] [] h Q :=
  (am_bd e).elim fun p hp => b_Model_isWater_10 (d := d) (k := c_Model_isGreen (d := d) hp.1 (t_Model_isWater_15 hp.2 q))
theorem t_Model_isWater_0 {d : Nat} {x1 : Int32} {h : am_H} {Q : am_Q} {res : Bool} (e : f_Model_isWater h x1 = some res) (q : Q (some (.int (am_b res))) h) : am_W (X_Model_isWater (d + 1)) 0 [some (.ref 0), some (.int x1)] [] h Q :=
  b_Model_isWater_0 (d := (d + 1)) (q0 := (am_okv (am_gd e))) (kt := fun c => (t_Model_isWater_22 (am_ife (am_ga e) c) q)) (kf := fun c => (t_Model_isWater_10 (am_ift (am_ga e) c) q))
theorem c_Model_isWater {d : Nat} {x1 : Int32} {h : am_H} {Q : am_Q} {res : Bool} (e : f_Model_isWater h x1 = some res) (q : Q (some (.int (am_b res))) h) : m_Model_isWater (d + 1) [.ref 0, .int x1] h Q :=
  e_Model_isWater (t_Model_isWater_0 e q)
theorem d_Model_adds_0 : decode prog_12_method_11_code 0 = .ok (.aload_n 0, 1) := by decide +kernel
theorem d_Model_adds_1 : decode prog_12_method_11_code 1 = .ok (.getfield 11, 3) := by decide +kernel
theorem d_Model_adds_4 : decode prog_12_method_11_code 4 = .ok (.bipush 31, 2) := by decide +kernel
theorem d_Model_adds_6 : decode prog_12_method_11_code 6 = .ok (.aload_n 0, 1) := by decide +kernel
theorem d_Model_adds_7 : decode prog_12_method_11_code 7 = .ok (.getfield 80, 3) := by decide +kernel
theorem d_Model_adds_10 : decode prog_12_method_11_code 10 = .ok (.iadd, 1) := by decide +kernel
theorem d_Model_adds_11 : decode prog_12_method_11_code 11 = .ok (.iload_n 1, 1) := by decide +kernel
theorem d_Model_adds_12 : decode prog_12_method_11_code 12 = .ok (.iastore, 1) := by decide +kernel
theorem d_Model_adds_13 : decode prog_12_method_11_code 13 = .ok (.aload_n 0, 1) := by decide +kernel
theorem d_Model_adds_14 : decode prog_12_method_11_code 14 = .ok (.getfield 11, 3) := by decide +kernel
theorem d_Model_adds_17 : decode prog_12_method_11_code 17 = .ok (.bipush 37, 2) := by decide +kernel
theorem d_Model_adds_19 : decode prog_12_method_11_code 19 = .ok (.aload_n 0, 1) := by decide +kernel
theorem d_Model_adds_20 : decode prog_12_method_11_code 20 = .ok (.getfield 80, 3) := by decide +kernel
theorem d_Model_adds_23 : decode prog_12_method_11_code 23 = .ok (.iadd, 1) := by decide +kernel
theorem d_Model_adds_24 : decode prog_12_method_11_code 24 = .ok (.iload_n 2, 1) := by decide +kernel
theorem d_Model_adds_25 : decode prog_12_method_11_code 25 = .ok (.iastore, 1) := by decide +kernel
theorem d_Model_adds_26 : decode prog_12_method_11_code 26 = .ok (.aload_n 0, 1) := by decide +kernel
theorem d_Model_adds_27 : decode prog_12_method_11_code 27 = .ok (.getfield 11, 3) := by decide +kernel
theorem d_Model_adds_30 : decode prog_12_method_11_code 30 = .ok (.bipush 43, 2) := by decide +kernel
theorem d_Model_adds_32 : decode prog_12_method_11_code 32 = .ok (.aload_n 0, 1) := by decide +kernel
theorem d_Model_adds_33 : decode prog_12_method_11_code 33 = .ok (.getfield 80, 3) := by decide +kernel
theorem d_Model_adds_36 : decode prog_12_method_11_code 36 = .ok (.iadd, 1) := by decide +kernel
theorem d_Model_adds_37 : decode prog_12_method_11_code 37 = .ok (.iload_n 3, 1) := by decide +kernel
theorem d_Model_adds_38 : decode prog_12_method_11_code 38 = .ok (.iastore, 1) := by decide +kernel
theorem d_Model_adds_39 : decode prog_12_method_11_code 39 = .ok (.aload_n 0, 1) := by decide +kernel
theorem d_Model_adds_40 : decode prog_12_method_11_code 40 = .ok (.dup, 1) := by decide +kernel
theorem d_Model_adds_41 : decode prog_12_method_11_code 41 = .ok (.getfield 80, 3) := by decide +kernel
theorem d_Model_adds_44 : decode prog_12_method_11_code 44 = .ok (.iconst 1, 1) := by decide +kernel
theorem d_Model_adds_45 : decode prog_12_method_11_code 45 = .ok (.iadd, 1) := by decide +kernel
theorem d_Model_adds_46 : decode prog_12_method_11_code 46 = .ok (.putfield 80, 3) := by decide +kernel
theorem d_Model_adds_49 : decode prog_12_method_11_code 49 = .ok (.return_, 1) := by decide +kernel
theorem b_Model_adds_0 {d : Nat} {x1 : Int32} {x2 : Int32} {x3 : Int32} {h : am_H} {Q : am_Q} (q0 : vp_in (31 + (h.1 0 6)) 54) (q1 : vp_in (37 + ((am_pI h 1 (31 + (h.1 0 6)).toNatClampNeg x1).1 0 6)) 54) (q2 : vp_in (43 + ((am_pI (am_pI h 1 (31 + (h.1 0 6)).toNatClampNeg x1) 1 (37 + ((am_pI h 1 (31 + (h.1 0 6)).toNatClampNeg x1).1 0 6)).toNatClampNeg x2).1 0 6)) 54) (q : Q none (am_pI (am_pI (am_pI (am_pI h 1 (31 + (h.1 0 6)).toNatClampNeg x1) 1 (37 + ((am_pI h 1 (31 + (h.1 0 6)).toNatClampNeg x1).1 0 6)).toNatClampNeg x2) 1 (43 + ((am_pI (am_pI h 1 (31 + (h.1 0 6)).toNatClampNeg x1) 1 (37 + ((am_pI h 1 (31 + (h.1 0 6)).toNatClampNeg x1).1 0 6)).toNatClampNeg x2).1 0 6)).toNatClampNeg x3) 0 6 (((am_pI (am_pI (am_pI h 1 (31 + (h.1 0 6)).toNatClampNeg x1) 1 (37 + ((am_pI h 1 (31 + (h.1 0 6)).toNatClampNeg x1).1 0 6)).toNatClampNeg x2) 1 (43 + ((am_pI (am_pI h 1 (31 + (h.1 0 6)).toNatClampNeg x1) 1 (37 + ((am_pI h 1 (31 + (h.1 0 6)).toNatClampNeg x1).1 0 6)).toNatClampNeg x2).1 0 6)).toNatClampNeg x3).1 0 6) + 1))) : am_W (X_Model_adds d) 0 [some (.ref 0), some (.int x1), some (.int x2), some (.int x3)] [] h Q :=
  am_aload_n d_Model_adds_0 rfl (i := 0) rfl <|
    am_getR (ci := 10) (i := 0) rfl rfl rfl (Nat.le_of_ble_eq_true rfl) w_1318 d_Model_adds_1 <|
    am_bipush (v := 31) d_Model_adds_4 (by decide) <|
    am_aload_n d_Model_adds_6 rfl (i := 0) rfl <|
    am_getI (ci := 10) (i := 6) rfl rfl rfl (Nat.le_of_ble_eq_true rfl) w_1324 d_Model_adds_7 <|
    am_iadd d_Model_adds_10 <|
    am_iload_n d_Model_adds_11 rfl (i := 1) rfl <|
    am_iast rfl q0 d_Model_adds_12 <|
    am_aload_n d_Model_adds_13 rfl (i := 0) rfl <|
    am_getR (ci := 10) (i := 0) rfl rfl rfl (Nat.le_of_ble_eq_true rfl) w_1318 d_Model_adds_14 <|
    am_bipush (v := 37) d_Model_adds_17 (by decide) <|
    am_aload_n d_Model_adds_19 rfl (i := 0) rfl <|
    am_getI (ci := 10) (i := 6) rfl rfl rfl (Nat.le_of_ble_eq_true rfl) w_1324 d_Model_adds_20 <|
    am_iadd d_Model_adds_23 <|
    am_iload_n d_Model_adds_24 rfl (i := 2) rfl <|
    am_iast rfl q1 d_Model_adds_25 <|
    am_aload_n d_Model_adds_26 rfl (i := 0) rfl <|
    am_getR (ci := 10) (i := 0) rfl rfl rfl (Nat.le_of_ble_eq_true rfl) w_1318 d_Model_adds_27 <|
    am_bipush (v := 43) d_Model_adds_30 (by decide) <|
    am_aload_n d_Model_adds_32 rfl (i := 0) rfl <|
    am_getI (ci := 10) (i := 6) rfl rfl rfl (Nat.le_of_ble_eq_true rfl) w_1324 d_Model_adds_33 <|
    am_iadd d_Model_adds_36 <|
    am_iload_n d_Model_adds_37 rfl (i := 3) rfl <|
    am_iast rfl q2 d_Model_adds_38 <|
    am_aload_n d_Model_adds_39 rfl (i := 0) rfl <|
    am_dupR d_Model_adds_40 <|
    am_getI (ci := 10) (i := 6) rfl rfl rfl (Nat.le_of_ble_eq_true rfl) w_1324 d_Model_adds_41 <|
    am_iconst (v := 1) d_Model_adds_44 (by decide) <|
    am_iadd d_Model_adds_45 <|
    am_putI (ci := 10) (i := 6) rfl rfl rfl (Nat.le_of_ble_eq_true rfl) w_1324 rfl rfl rfl d_Model_adds_46 <|
    am_vret rfl d_Model_adds_49 q
theorem t_Model_adds_0 {d : Nat} {x1 : Int32} {x2 : Int32} {x3 : Int32} {h : am_H} {Q : am_Q} {res : am_H} (e : f_Model_adds h x1 x2 x3 = some res) (q : Q none res) : am_W (X_Model_adds d) 0 [some (.ref 0), some (.int x1), some (.int x2), some (.int x3)] [] h Q :=
  b_Model_adds_0 (d := d) (q0 := (am_okv (am_gd e))) (q1 := (am_okv (am_gd (am_ga e)))) (q2 := (am_okv (am_gd (am_ga (am_ga e))))) (q := (am_rVpi (am_ga (am_ga (am_ga e))) q))
theorem c_Model_adds {d : Nat} {x1 : Int32} {x2 : Int32} {x3 : Int32} {h : am_H} {Q : am_Q} {res : am_H} (e : f_Model_adds h x1 x2 x3 = some res) (q : Q none res) : m_Model_adds d [.ref 0, .int x1, .int x2, .int x3] h Q :=
  e_Model_adds (t_Model_adds_0 e q)
theorem d_Model_isOne_0 : decode prog_12_method_12_code 0 = .ok (.lload_n 0, 1) := by decide +kernel
theorem d_Model_isOne_1 : decode prog_12_method_12_code 1 = .ok (.lconst 0, 1) := by decide +kernel
theorem d_Model_isOne_2 : decode prog_12_method_12_code 2 = .ok (.ldc2_w 87, 3) := by decide +kernel
theorem d_Model_isOne_5 : decode prog_12_method_12_code 5 = .ok (.invokestatic 83, 3) := by decide +kernel
theorem d_Model_isOne_8 : decode prog_12_method_12_code 8 = .ok (.ifCond .eq 18, 3) := by decide +kernel
theorem d_Model_isOne_11 : decode prog_12_method_12_code 11 = .ok (.lload_n 2, 1) := by decide +kernel
theorem d_Model_isOne_12 : decode prog_12_method_12_code 12 = .ok (.lconst 0, 1) := by decide +kernel
theorem d_Model_isOne_13 : decode prog_12_method_12_code 13 = .ok (.ldc2_w 93, 3) := by decide +kernel
theorem d_Model_isOne_16 : decode prog_12_method_12_code 16 = .ok (.invokestatic 83, 3) := by decide +kernel
theorem d_Model_isOne_19 : decode prog_12_method_12_code 19 = .ok (.ifCond .eq 7, 3) := by decide +kernel
theorem d_Model_isOne_22 : decode prog_12_method_12_code 22 = .ok (.iconst 1, 1) := by decide +kernel
theorem d_Model_isOne_23 : decode prog_12_method_12_code 23 = .ok (.goto 4, 3) := by decide +kernel
theorem d_Model_isOne_26 : decode prog_12_method_12_code 26 = .ok (.iconst 0, 1) := by decide +kernel
theorem d_Model_isOne_27 : decode prog_12_method_12_code 27 = .ok (.ireturn, 1) := by decide +kernel
theorem b_Model_isOne_0 {d : Nat} {x0 : Int64} {x2 : Int64} {h : am_H} {Q : am_Q} (k : m_Model_within d [.long x0, .long 0, .long 30] h (fun r hh => am_W (X_Model_isOne (d + 1)) 8 [some (.long x0), none, some (.long x2), none] (r.toList ++ []) hh Q)) : am_W (X_Model_isOne (d + 1)) 0 [some (.long x0), none, some (.long x2), none] [] h Q :=
  am_lload_n d_Model_isOne_0 rfl (i := 0) rfl <|
    am_lconst (v := 0) d_Model_isOne_1 (by decide) <|
    am_ldc2 (v := 30) d_Model_isOne_2 w_1442 <|
    am_callS (vs := [.long x0, .long 0, .long 30]) (st := []) rfl d_Model_isOne_5 w_1443 w_1444 w_94 w_1445 p_Model_within (Nat.le_of_ble_eq_true rfl) (Nat.le_of_ble_eq_true rfl) rfl k
theorem b_Model_isOne_8 {d : Nat} {x0 : Int64} {x2 : Int64} {y0 : Bool} {h : am_H} {Q : am_Q} (kt : (am_b y0) = 0 → am_W (X_Model_isOne d) 26 [some (.long x0), none, some (.long x2), none] [] h Q) (kf : ¬ (am_b y0) = 0 → am_W (X_Model_isOne d) 11 [some (.long x0), none, some (.long x2), none] [] h Q) : am_W (X_Model_isOne d) 8 [some (.long x0), none, some (.long x2), none] [.int (am_b y0)] h Q :=
  am_if_eq (tgt := 26) d_Model_isOne_8 (by decide) kt kf
theorem b_Model_isOne_11 {d : Nat} {x0 : Int64} {x2 : Int64} {h : am_H} {Q : am_Q} (k : m_Model_within d [.long x2, .long 0, .long 3] h (fun r hh => am_W (X_Model_isOne (d + 1)) 19 [some (.long x0), none, some (.long x2), none] (r.toList ++ []) hh Q)) : am_W (X_Model_isOne (d + 1)) 11 [some (.long x0), none, some (.long x2), none] [] h Q :=
  am_lload_n d_Model_isOne_11 rfl (i := 2) rfl <|
    am_lconst (v := 0) d_Model_isOne_12 (by decide) <|
    am_ldc2 (v := 3) d_Model_isOne_13 w_1446 <|
    am_callS (vs := [.long x2, .long 0, .long 3]) (st := []) rfl d_Model_isOne_16 w_1443 w_1444 w_94 w_1445 p_Model_within (Nat.le_of_ble_eq_true rfl) (Nat.le_of_ble_eq_true rfl) rfl k
theorem b_Model_isOne_19 {d : Nat} {x0 : Int64} {x2 : Int64} {y0 : Bool} {h : am_H} {Q : am_Q} (kt : (am_b y0) = 0 → am_W (X_Model_isOne d) 26 [some (.long x0), none, some (.long x2), none] [] h Q) (kf : ¬ (am_b y0) = 0 → am_W (X_Model_isOne d) 22 [some (.long x0), none, some (.long x2), none] [] h Q) : am_W (X_Model_isOne d) 19 [some (.long x0), none, some (.long x2), none] [.int (am_b y0)] h Q :=
  am_if_eq (tgt := 26) d_Model_isOne_19 (by decide) kt kf
theorem b_Model_isOne_22 {d : Nat} {x0 : Int64} {x2 : Int64} {h : am_H} {Q : am_Q} (q : Q (some (.int 1)) h) : am_W (X_Model_isOne d) 22 [some (.long x0), none, some (.long x2), none] [] h Q :=
  am_iconst (v := 1) d_Model_isOne_22 (by decide) <|
    am_goto (tgt := 27) d_Model_isOne_23 (by decide) <|
    am_zret (ty := .boolean) rfl (by decide) d_Model_isOne_27 q
theorem b_Model_isOne_26 {d : Nat} {x0 : Int64} {x2 : Int64} {h : am_H} {Q : am_Q} (q : Q (some (.int 0)) h) : am_W (X_Model_isOne d) 26 [some (.long x0), none, some (.long x2), none] [] h Q :=
  am_iconst (v := 0) d_Model_isOne_26 (by decide) <|
    am_zret (ty := .boolean) rfl (by decide) d_Model_isOne_27 q
theorem t_Model_isOne_26 {d : Nat} {x0 : Int64} {x2 : Int64} {h : am_H} {Q : am_Q} {res : Bool} (e : f_Model_isOne_26 = res) (q : Q (some (.int (am_b res))) h) : am_W (X_Model_isOne (d + 1)) 26 [some (.long x0), none, some (.long x2), none] [] h Q :=
  b_Model_isOne_26 (d := (d + 1)) (q := (am_rZt (v := false) e q))
theorem t_Model_isOne_22 {d : Nat} {x0 : Int64} {x2 : Int64} {h : am_H} {Q : am_Q} {res : Bool} (e : f_Model_isOne_22 = res) (q : Q (some (.int (am_b res))) h) : am_W (X_Model_isOne (d + 1)) 22 [some (.long x0), none, some (.long x2), none] [] h Q :=
  b_Model_isOne_22 (d := (d + 1)) (q := (am_rZt (v := true) e q))
theorem t_Model_isOne_19 {d : Nat} {x0 : Int64} {x2 : Int64} {y0 : Bool} {h : am_H} {Q : am_Q} {res : Bool} (e : f_Model_isOne_19 y0 = res) (q : Q (some (.int (am_b res))) h) : am_W (X_Model_isOne (d + 1)) 19 [some (.long x0), none, some (.long x2), none] [.int (am_b y0)] h Q :=
  b_Model_isOne_19 (d := (d + 1)) (kt := fun c => (t_Model_isOne_26 (am_iff e (am_bz c)) q)) (kf := fun c => (t_Model_isOne_22 (am_ift e (am_bn c)) q))
theorem t_Model_isOne_11 {d : Nat} {x0 : Int64} {x2 : Int64} {h : am_H} {Q : am_Q} {res : Bool} (e : f_Model_isOne_11 x2 = res) (q : Q (some (.int (am_b res))) h) : am_W (X_Model_isOne (d + 1)) 11 [some (.long x0), none, some (.long x2), none] [] h Q :=
  b_Model_isOne_11 (d := d) (k := c_Model_within (d := d) rfl (t_Model_isOne_19 e q))
theorem t_Model_isOne_8 {d : Nat} {x0 : Int64} {x2 : Int64} {y0 : Bool} {h : am_H} {Q : am_Q} {res : Bool} (e : f_Model_isOne_8 x2 y0 = res) (q : Q (some (.int (am_b res))) h) : am_W (X_Model_isOne (d + 1)) 8 [some (.long x0), none, some (.long x2), none] [.int (am_b y0)] h Q :=
  b_Model_isOne_8 (d := (d + 1)) (kt := fun c => (t_Model_isOne_26 (am_iff e (am_bz c)) q)) (kf := fun c => (t_Model_isOne_11 (am_ift e (am_bn c)) q))
theorem t_Model_isOne_0 {d : Nat} {x0 : Int64} {x2 : Int64} {h : am_H} {Q : am_Q} {res : Bool} (e : f_Model_isOne x0 x2 = res) (q : Q (some (.int (am_b res))) h) : am_W (X_Model_isOne (d + 1)) 0 [some (.long x0), none, some (.long x2), none] [] h Q :=
  b_Model_isOne_0 (d := d) (k := c_Model_within (d := d) rfl (t_Model_isOne_8 e q))
theorem c_Model_isOne {d : Nat} {x0 : Int64} {x2 : Int64} {h : am_H} {Q : am_Q} {res : Bool} (e : f_Model_isOne x0 x2 = res) (q : Q (some (.int (am_b res))) h) : m_Model_isOne (d + 1) [.long x0, .long x2] h Q :=
  e_Model_isOne (t_Model_isOne_0 e q)
theorem d_Model_club_0 : decode prog_12_method_13_code 0 = .ok (.iload_n 1, 1) := by decide +kernel
theorem d_Model_club_1 : decode prog_12_method_13_code 1 = .ok (.ifCond .lt 19, 3) := by decide +kernel
theorem d_Model_club_4 : decode prog_12_method_13_code 4 = .ok (.iload_n 1, 1) := by decide +kernel
theorem d_Model_club_5 : decode prog_12_method_13_code 5 = .ok (.bipush 10, 2) := by decide +kernel
theorem d_Model_club_7 : decode prog_12_method_13_code 7 = .ok (.idiv, 1) := by decide +kernel
theorem d_Model_club_8 : decode prog_12_method_13_code 8 = .ok (.i2l, 1) := by decide +kernel
theorem d_Model_club_9 : decode prog_12_method_13_code 9 = .ok (.iload_n 1, 1) := by decide +kernel
theorem d_Model_club_10 : decode prog_12_method_13_code 10 = .ok (.bipush 10, 2) := by decide +kernel
theorem d_Model_club_12 : decode prog_12_method_13_code 12 = .ok (.irem, 1) := by decide +kernel
theorem d_Model_club_13 : decode prog_12_method_13_code 13 = .ok (.i2l, 1) := by decide +kernel
theorem d_Model_club_14 : decode prog_12_method_13_code 14 = .ok (.invokestatic 95, 3) := by decide +kernel
theorem d_Model_club_17 : decode prog_12_method_13_code 17 = .ok (.ifCond .ne 5, 3) := by decide +kernel
theorem d_Model_club_20 : decode prog_12_method_13_code 20 = .ok (.iconst (-1), 1) := by decide +kernel
theorem d_Model_club_21 : decode prog_12_method_13_code 21 = .ok (.ireturn, 1) := by decide +kernel
theorem d_Model_club_22 : decode prog_12_method_13_code 22 = .ok (.aload_n 0, 1) := by decide +kernel
theorem d_Model_club_23 : decode prog_12_method_13_code 23 = .ok (.getfield 80, 3) := by decide +kernel
theorem d_Model_club_26 : decode prog_12_method_13_code 26 = .ok (.bipush 6, 2) := by decide +kernel
theorem d_Model_club_28 : decode prog_12_method_13_code 28 = .ok (.if_icmp .ne 6, 3) := by decide +kernel
theorem d_Model_club_31 : decode prog_12_method_13_code 31 = .ok (.bipush (-3), 2) := by decide +kernel
theorem d_Model_club_33 : decode prog_12_method_13_code 33 = .ok (.ireturn, 1) := by decide +kernel
theorem d_Model_club_34 : decode prog_12_method_13_code 34 = .ok (.aload_n 0, 1) := by decide +kernel
theorem d_Model_club_35 : decode prog_12_method_13_code 35 = .ok (.iload_n 1, 1) := by decide +kernel
theorem d_Model_club_36 : decode prog_12_method_13_code 36 = .ok (.bipush 10, 2) := by decide +kernel
theorem d_Model_club_38 : decode prog_12_method_13_code 38 = .ok (.idiv, 1) := by decide +kernel
theorem d_Model_club_39 : decode prog_12_method_13_code 39 = .ok (.iload_n 1, 1) := by decide +kernel
theorem d_Model_club_40 : decode prog_12_method_13_code 40 = .ok (.bipush 10, 2) := by decide +kernel
theorem d_Model_club_42 : decode prog_12_method_13_code 42 = .ok (.irem, 1) := by decide +kernel
theorem d_Model_club_43 : decode prog_12_method_13_code 43 = .ok (.iconst 1, 1) := by decide +kernel
theorem d_Model_club_44 : decode prog_12_method_13_code 44 = .ok (.invokevirtual 99, 3) := by decide +kernel
theorem d_Model_club_47 : decode prog_12_method_13_code 47 = .ok (.aload_n 0, 1) := by decide +kernel
theorem d_Model_club_48 : decode prog_12_method_13_code 48 = .ok (.getfield 80, 3) := by decide +kernel
theorem d_Model_club_51 : decode prog_12_method_13_code 51 = .ok (.iconst 1, 1) := by decide +kernel
theorem d_Model_club_52 : decode prog_12_method_13_code 52 = .ok (.isub, 1) := by decide +kernel
theorem d_Model_club_53 : decode prog_12_method_13_code 53 = .ok (.ireturn, 1) := by decide +kernel
theorem b_Model_club_0 {d : Nat} {x1 : Int32} {h : am_H} {Q : am_Q} (kt : x1 < 0 → am_W (X_Model_club d) 20 [some (.ref 0), some (.int x1)] [] h Q) (kf : ¬ x1 < 0 → am_W (X_Model_club d) 4 [some (.ref 0), some (.int x1)] [] h Q) : am_W (X_Model_club d) 0 [some (.ref 0), some (.int x1)] [] h Q :=
  am_iload_n d_Model_club_0 rfl (i := 1) rfl <|
    am_if_lt (tgt := 20) d_Model_club_1 (by decide) kt kf
theorem b_Model_club_4 {d : Nat} {x1 : Int32} {h : am_H} {Q : am_Q} (k : m_Model_isOne d [.long ((x1 / 10).toInt64), .long ((x1 - x1 / 10 * 10).toInt64)] h (fun r hh => am_W (X_Model_club (d + 1)) 17 [some (.ref 0), some (.int x1)] (r.toList ++ []) hh Q)) : am_W (X_Model_club (d + 1)) 4 [some (.ref 0), some (.int x1)] [] h Q :=
  am_iload_n d_Model_club_4 rfl (i := 1) rfl <|
    am_bipush (v := 10) d_Model_club_5 (by decide) <|
    am_idiv d_Model_club_7 (by decide) <|
    am_i2l d_Model_club_8 <|
    am_iload_n d_Model_club_9 rfl (i := 1) rfl <|
    am_bipush (v := 10) d_Model_club_10 (by decide) <|
    am_irem d_Model_club_12 (by decide) <|
    am_i2l d_Model_club_13 <|
    am_callS (vs := [.long ((x1 / 10).toInt64), .long ((x1 - x1 / 10 * 10).toInt64)]) (st := []) rfl d_Model_club_14 w_1439 w_1440 w_94 w_1441 p_Model_isOne (Nat.le_of_ble_eq_true rfl) (Nat.le_of_ble_eq_true rfl) rfl k
theorem b_Model_club_17 {d : Nat} {x1 : Int32} {y0 : Bool} {h : am_H} {Q : am_Q} (kt : ¬ (am_b y0) = 0 → am_W (X_Model_club d) 22 [some (.ref 0), some (.int x1)] [] h Q) (kf : (am_b y0) = 0 → am_W (X_Model_club d) 20 [some (.ref 0), some (.int x1)] [] h Q) : am_W (X_Model_club d) 17 [some (.ref 0), some (.int x1)] [.int (am_b y0)] h Q :=
  am_if_ne (tgt := 22) d_Model_club_17 (by decide) kt kf
theorem b_Model_club_20 {d : Nat} {x1 : Int32} {h : am_H} {Q : am_Q} (q : Q (some (.int (-1))) h) : am_W (X_Model_club d) 20 [some (.ref 0), some (.int x1)] [] h Q :=
  am_iconst (v := (-1)) d_Model_club_20 (by decide) <|
    am_iret rfl d_Model_club_21 q
theorem b_Model_club_22 {d : Nat} {x1 : Int32} {h : am_H} {Q : am_Q} (kt : ¬ (h.1 0 6) = 6 → am_W (X_Model_club d) 34 [some (.ref 0), some (.int x1)] [] h Q) (kf : (h.1 0 6) = 6 → am_W (X_Model_club d) 31 [some (.ref 0), some (.int x1)] [] h Q) : am_W (X_Model_club d) 22 [some (.ref 0), some (.int x1)] [] h Q :=
  am_aload_n d_Model_club_22 rfl (i := 0) rfl <|
    am_getI (ci := 10) (i := 6) rfl rfl rfl (Nat.le_of_ble_eq_true rfl) w_1324 d_Model_club_23 <|
    am_bipush (v := 6) d_Model_club_26 (by decide) <|
    am_icmp_ne (tgt := 34) d_Model_club_28 (by decide) kt kf
theorem b_Model_club_31 {d : Nat} {x1 : Int32} {h : am_H} {Q : am_Q} (q : Q (some (.int (-3))) h) : am_W (X_Model_club d) 31 [some (.ref 0), some (.int x1)] [] h Q :=
  am_bipush (v := (-3)) d_Model_club_31 (by decide) <|
    am_iret rfl d_Model_club_33 q
theorem b_Model_club_34 {d : Nat} {x1 : Int32} {h : am_H} {Q : am_Q} (k : m_Model_adds d [.ref 0, .int (x1 / 10), .int (x1 - x1 / 10 * 10), .int 1] h (fun r hh => am_W (X_Model_club (d + 1)) 47 [some (.ref 0), some (.int x1)] (r.toList ++ []) hh Q)) : am_W (X_Model_club (d + 1)) 34 [some (.ref 0), some (.int x1)] [] h Q :=
  am_aload_n d_Model_club_34 rfl (i := 0) rfl <|
    am_iload_n d_Model_club_35 rfl (i := 1) rfl <|
    am_bipush (v := 10) d_Model_club_36 (by decide) <|
    am_idiv d_Model_club_38 (by decide) <|
    am_iload_n d_Model_club_39 rfl (i := 1) rfl <|
    am_bipush (v := 10) d_Model_club_40 (by decide) <|
    am_irem d_Model_club_42 (by decide) <|
    am_iconst (v := 1) d_Model_club_43 (by decide) <|
    am_callV (vs := [.int (x1 / 10), .int (x1 - x1 / 10 * 10), .int 1]) (st := []) (k := 0) (ci := 10) rfl d_Model_club_44 rfl rfl w_1447 w_1449 w_34 w_94 w_1450 p_Model_adds (Nat.le_of_ble_eq_true rfl) (Nat.le_of_ble_eq_true rfl) rfl k
theorem b_Model_club_47 {d : Nat} {x1 : Int32} {h : am_H} {Q : am_Q} (q : Q (some (.int ((h.1 0 6) - 1))) h) : am_W (X_Model_club d) 47 [some (.ref 0), some (.int x1)] [] h Q :=
  am_aload_n d_Model_club_47 rfl (i := 0) rfl <|
    am_getI (ci := 10) (i := 6) rfl rfl rfl (Nat.le_of_ble_eq_true rfl) w_1324 d_Model_club_48 <|
    am_iconst (v := 1) d_Model_club_51 (by decide) <|
    am_isub d_Model_club_52 <|
    am_iret rfl d_Model_club_53 q
theorem t_Model_club_20 {d : Nat} {x1 : Int32} {h : am_H} {Q : am_Q} {res : Int32 × am_H} (e : f_Model_club_20 h = some res) (q : Q (some (.int res.1)) res.2) : am_W (X_Model_club (d + 2)) 20 [some (.ref 0), some (.int x1)] [] h Q :=
  b_Model_club_20 (d := (d + 2)) (q := (am_rIpi (v := (-1)) e q))
theorem t_Model_club_47 {d : Nat} {x1 : Int32} {h : am_H} {Q : am_Q} {res : Int32 × am_H} (e : f_Model_club_47 h = some res) (q : Q (some (.int res.1)) res.2) : am_W (X_Model_club (d + 2)) 47 [some (.ref 0), some (.int x1)] [] h Q :=
  b_Model_club_47 (d := (d + 2)) (q := (am_rIpi (v := ((h.1 0 6) - 1)) e q))
theorem t_Model_club_34 {d : Nat} {x1 : Int32} {h : am_H} {Q : am_Q} {res : Int32 × am_H} (e : f_Model_club_34 h x1 = some res) (q : Q (some (.int res.1)) res.2) : am_W (X_Model_club (d + 2)) 34 [some (.ref 0), some (.int x1)] [] h Q :=
  (am_bd e).elim fun p hp => b_Model_club_34 (d := (d + 1)) (k := c_Model_adds (d := d + 1) hp.1 (t_Model_club_47 hp.2 q))
theorem t_Model_club_31 {d : Nat} {x1 : Int32} {h : am_H} {Q : am_Q} {res : Int32 × am_H} (e : f_Model_club_31 h = some res) (q : Q (some (.int res.1)) res.2) : am_W (X_Model_club (d + 2)) 31 [some (.ref 0), some (.int x1)] [] h Q :=
  b_Model_club_31 (d := (d + 2)) (q := (am_rIpi (v := (-3)) e q))
theorem t_Model_club_22 {d : Nat} {x1 : Int32} {h : am_H} {Q : am_Q} {res : Int32 × am_H} (e : f_Model_club_22 h x1 = some res) (q : Q (some (.int res.1)) res.2) : am_W (X_Model_club (d + 2)) 22 [some (.ref 0), some (.int x1)] [] h Q :=
  b_Model_club_22 (d := (d + 2)) (kt := fun c => (t_Model_club_34 (am_ife e c) q)) (kf := fun c => (t_Model_club_31 (am_ift e c) q))
theorem t_Model_club_17 {d : Nat} {x1 : Int32} {y0 : Bool} {h : am_H} {Q : am_Q} {res : Int32 × am_H} (e : f_Model_club_17 h x1 y0 = some res) (q : Q (some (.int res.1)) res.2) : am_W (X_Model_club (d + 2)) 17 [some (.ref 0), some (.int x1)] [.int (am_b y0)] h Q :=
  b_Model_club_17 (d := (d + 2)) (kt := fun c => (t_Model_club_22 (am_ift e (am_bn c)) q)) (kf := fun c => (t_Model_club_20 (am_iff e (am_bz c)) q))
theorem t_Model_club_4 {d : Nat} {x1 : Int32} {h : am_H} {Q : am_Q} {res : Int32 × am_H} (e : f_Model_club_4 h x1 = some res) (q : Q (some (.int res.1)) res.2) : am_W (X_Model_club (d + 2)) 4 [some (.ref 0), some (.int x1)] [] h Q :=
  b_Model_club_4 (d := (d + 1)) (k := c_Model_isOne (d := d) rfl (t_Model_club_17 e q))
theorem t_Model_club_0 {d : Nat} {x1 : Int32} {h : am_H} {Q : am_Q} {res : Int32 × am_H} (e : f_Model_club h x1 = some res) (q : Q (some (.int res.1)) res.2) : am_W (X_Model_club (d + 2)) 0 [some (.ref 0), some (.int x1)] [] h Q :=
  b_Model_club_0 (d := (d + 2)) (kt := fun c => (t_Model_club_20 (am_ift e c) q)) (kf := fun c => (t_Model_club_4 (am_ife e c) q))
theorem c_Model_club {d : Nat} {x1 : Int32} {h : am_H} {Q : am_Q} {res : Int32 × am_H} (e : f_Model_club h x1 = some res) (q : Q (some (.int res.1)) res.2) : m_Model_club (d + 2) [.ref 0, .int x1] h Q :=
  e_Model_club (t_Model_club_0 e q)
