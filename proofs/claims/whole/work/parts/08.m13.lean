theorem d_Model_draws_0 : decode prog_12_method_66_code 0 = .ok (.aload_n 0, 1) := by decide +kernel
theorem d_Model_draws_1 : decode prog_12_method_66_code 1 = .ok (.aload_n 0, 1) := by decide +kernel
theorem d_Model_draws_2 : decode prog_12_method_66_code 2 = .ok (.getfield 282, 3) := by decide +kernel
theorem d_Model_draws_5 : decode prog_12_method_66_code 5 = .ok (.ldc_w 285, 3) := by decide +kernel
theorem d_Model_draws_8 : decode prog_12_method_66_code 8 = .ok (.imul, 1) := by decide +kernel
theorem d_Model_draws_9 : decode prog_12_method_66_code 9 = .ok (.sipush 12345, 3) := by decide +kernel
theorem d_Model_draws_12 : decode prog_12_method_66_code 12 = .ok (.iadd, 1) := by decide +kernel
theorem d_Model_draws_13 : decode prog_12_method_66_code 13 = .ok (.putfield 282, 3) := by decide +kernel
theorem d_Model_draws_16 : decode prog_12_method_66_code 16 = .ok (.aload_n 0, 1) := by decide +kernel
theorem d_Model_draws_17 : decode prog_12_method_66_code 17 = .ok (.getfield 282, 3) := by decide +kernel
theorem d_Model_draws_20 : decode prog_12_method_66_code 20 = .ok (.bipush 8, 2) := by decide +kernel
theorem d_Model_draws_22 : decode prog_12_method_66_code 22 = .ok (.iushr, 1) := by decide +kernel
theorem d_Model_draws_23 : decode prog_12_method_66_code 23 = .ok (.iload_n 1, 1) := by decide +kernel
theorem d_Model_draws_24 : decode prog_12_method_66_code 24 = .ok (.irem, 1) := by decide +kernel
theorem d_Model_draws_25 : decode prog_12_method_66_code 25 = .ok (.ireturn, 1) := by decide +kernel
theorem b_Model_draws_0 {d : Nat} {x1 : Int32} {h : am_H} {Q : am_Q} (q0 : ¬ x1 = 0) (q : Q (some (.int (((((am_pI h 0 21 (((h.1 0 21) * 1103515245) + 12345)).1 0 21).toUInt32 >>> (Int32.toUInt32 8 &&& Int32.toUInt32 31)).toInt32) - ((((am_pI h 0 21 (((h.1 0 21) * 1103515245) + 12345)).1 0 21).toUInt32 >>> (Int32.toUInt32 8 &&& Int32.toUInt32 31)).toInt32) / x1 * x1))) (am_pI h 0 21 (((h.1 0 21) * 1103515245) + 12345))) : am_W (X_Model_draws d) 0 [some (.ref 0), some (.int x1)] [] h Q :=
  am_aload_n d_Model_draws_0 rfl (i := 0) rfl <|
    am_aload_n d_Model_draws_1 rfl (i := 0) rfl <|
    am_getI (ci := 10) (i := 21) rfl rfl rfl (Nat.le_of_ble_eq_true rfl) w_1339 d_Model_draws_2 <|
    am_ldcw (v := 1103515245) d_Model_draws_5 w_1708 <|
    am_imul d_Model_draws_8 <|
    am_sipush (v := 12345) d_Model_draws_9 (by decide) <|
    am_iadd d_Model_draws_12 <|
    am_putI (ci := 10) (i := 21) rfl rfl rfl (Nat.le_of_ble_eq_true rfl) w_1339 rfl rfl rfl d_Model_draws_13 <|
    am_aload_n d_Model_draws_16 rfl (i := 0) rfl <|
    am_getI (ci := 10) (i := 21) rfl rfl rfl (Nat.le_of_ble_eq_true rfl) w_1339 d_Model_draws_17 <|
    am_bipush (v := 8) d_Model_draws_20 (by decide) <|
    am_iushr d_Model_draws_22 rfl <|
    am_iload_n d_Model_draws_23 rfl (i := 1) rfl <|
    am_irem d_Model_draws_24 q0 <|
    am_iret rfl d_Model_draws_25 q
theorem t_Model_draws_0 {d : Nat} {x1 : Int32} {h : am_H} {Q : am_Q} {res : Int32 × am_H} (e : f_Model_draws h x1 = some res) (q : Q (some (.int res.1)) res.2) : am_W (X_Model_draws d) 0 [some (.ref 0), some (.int x1)] [] h Q :=
  b_Model_draws_0 (d := d) (q0 := (am_gd e)) (q := (am_rIpi (v := (((((am_pI h 0 21 (((h.1 0 21) * 1103515245) + 12345)).1 0 21).toUInt32 >>> (Int32.toUInt32 8 &&& Int32.toUInt32 31)).toInt32) - ((((am_pI h 0 21 (((h.1 0 21) * 1103515245) + 12345)).1 0 21).toUInt32 >>> (Int32.toUInt32 8 &&& Int32.toUInt32 31)).toInt32) / x1 * x1)) (am_ga e) q))
theorem c_Model_draws {d : Nat} {x1 : Int32} {h : am_H} {Q : am_Q} {res : Int32 × am_H} (e : f_Model_draws h x1 = some res) (q : Q (some (.int res.1)) res.2) : m_Model_draws d [.ref 0, .int x1] h Q :=
  e_Model_draws (t_Model_draws_0 e q)
theorem d_Model_drawnDown_0 : decode prog_12_method_67_code 0 = .ok (.aload_n 0, 1) := by decide +kernel
theorem d_Model_drawnDown_1 : decode prog_12_method_67_code 1 = .ok (.getfield 11, 3) := by decide +kernel
theorem d_Model_drawnDown_4 : decode prog_12_method_67_code 4 = .ok (.bipush 37, 2) := by decide +kernel
theorem d_Model_drawnDown_6 : decode prog_12_method_67_code 6 = .ok (.iload_n 2, 1) := by decide +kernel
theorem d_Model_drawnDown_7 : decode prog_12_method_67_code 7 = .ok (.iadd, 1) := by decide +kernel
theorem d_Model_drawnDown_8 : decode prog_12_method_67_code 8 = .ok (.iaload, 1) := by decide +kernel
theorem d_Model_drawnDown_9 : decode prog_12_method_67_code 9 = .ok (.istore_n 3, 1) := by decide +kernel
theorem d_Model_drawnDown_10 : decode prog_12_method_67_code 10 = .ok (.aload_n 0, 1) := by decide +kernel
theorem d_Model_drawnDown_11 : decode prog_12_method_67_code 11 = .ok (.iload_n 1, 1) := by decide +kernel
theorem d_Model_drawnDown_12 : decode prog_12_method_67_code 12 = .ok (.aload_n 0, 1) := by decide +kernel
theorem d_Model_drawnDown_13 : decode prog_12_method_67_code 13 = .ok (.getfield 11, 3) := by decide +kernel
theorem d_Model_drawnDown_16 : decode prog_12_method_67_code 16 = .ok (.bipush 31, 2) := by decide +kernel
theorem d_Model_drawnDown_18 : decode prog_12_method_67_code 18 = .ok (.iload_n 2, 1) := by decide +kernel
theorem d_Model_drawnDown_19 : decode prog_12_method_67_code 19 = .ok (.iadd, 1) := by decide +kernel
theorem d_Model_drawnDown_20 : decode prog_12_method_67_code 20 = .ok (.iaload, 1) := by decide +kernel
theorem d_Model_drawnDown_21 : decode prog_12_method_67_code 21 = .ok (.aload_n 0, 1) := by decide +kernel
theorem d_Model_drawnDown_22 : decode prog_12_method_67_code 22 = .ok (.iconst 2, 1) := by decide +kernel
theorem d_Model_drawnDown_23 : decode prog_12_method_67_code 23 = .ok (.iload_n 3, 1) := by decide +kernel
theorem d_Model_drawnDown_24 : decode prog_12_method_67_code 24 = .ok (.imul, 1) := by decide +kernel
theorem d_Model_drawnDown_25 : decode prog_12_method_67_code 25 = .ok (.iconst 1, 1) := by decide +kernel
theorem d_Model_drawnDown_26 : decode prog_12_method_67_code 26 = .ok (.iadd, 1) := by decide +kernel
theorem d_Model_drawnDown_27 : decode prog_12_method_67_code 27 = .ok (.invokevirtual 286, 3) := by decide +kernel
theorem d_Model_drawnDown_30 : decode prog_12_method_67_code 30 = .ok (.iload_n 3, 1) := by decide +kernel
theorem d_Model_drawnDown_31 : decode prog_12_method_67_code 31 = .ok (.isub, 1) := by decide +kernel
theorem d_Model_drawnDown_32 : decode prog_12_method_67_code 32 = .ok (.invokevirtual 214, 3) := by decide +kernel
theorem d_Model_drawnDown_35 : decode prog_12_method_67_code 35 = .ok (.ireturn, 1) := by decide +kernel
theorem b_Model_drawnDown_0 {d : Nat} {x1 : Int32} {x2 : Int32} {h : am_H} {Q : am_Q} (q0 : vp_in (37 + x2) 54) (q1 : vp_in (31 + x2) 54) (k : m_Model_draws d [.ref 0, .int ((2 * (h.1 1 (37 + x2).toNatClampNeg)) + 1)] h (fun r hh => am_W (X_Model_drawnDown (d + 1)) 30 [some (.ref 0), some (.int x1), some (.int x2), some (.int (h.1 1 (37 + x2).toNatClampNeg))] (r.toList ++ [.int (h.1 1 (31 + x2).toNatClampNeg), .int x1, .ref 0]) hh Q)) : am_W (X_Model_drawnDown (d + 1)) 0 [some (.ref 0), some (.int x1), some (.int x2), none] [] h Q :=
  am_aload_n d_Model_drawnDown_0 rfl (i := 0) rfl <|
    am_getR (ci := 10) (i := 0) rfl rfl rfl (Nat.le_of_ble_eq_true rfl) w_1318 d_Model_drawnDown_1 <|
    am_bipush (v := 37) d_Model_drawnDown_4 (by decide) <|
    am_iload_n d_Model_drawnDown_6 rfl (i := 2) rfl <|
    am_iadd d_Model_drawnDown_7 <|
    am_iald rfl q0 d_Model_drawnDown_8 <|
    am_istore_n (ls' := [some (.ref 0), some (.int x1), some (.int x2), some (.int (h.1 1 (37 + x2).toNatClampNeg))]) d_Model_drawnDown_9 rfl (Nat.le_of_ble_eq_true rfl) rfl <|
    am_aload_n d_Model_drawnDown_10 rfl (i := 0) rfl <|
    am_iload_n d_Model_drawnDown_11 rfl (i := 1) rfl <|
    am_aload_n d_Model_drawnDown_12 rfl (i := 0) rfl <|
    am_getR (ci := 10) (i := 0) rfl rfl rfl (Nat.le_of_ble_eq_true rfl) w_1318 d_Model_drawnDown_13 <|
    am_bipush (v := 31) d_Model_drawnDown_16 (by decide) <|
    am_iload_n d_Model_drawnDown_18 rfl (i := 2) rfl <|
    am_iadd d_Model_drawnDown_19 <|
    am_iald rfl q1 d_Model_drawnDown_20 <|
    am_aload_n d_Model_drawnDown_21 rfl (i := 0) rfl <|
    am_iconst (v := 2) d_Model_drawnDown_22 (by decide) <|
    am_iload_n d_Model_drawnDown_23 rfl (i := 3) rfl <|
    am_imul d_Model_drawnDown_24 <|
    am_iconst (v := 1) d_Model_drawnDown_25 (by decide) <|
    am_iadd d_Model_drawnDown_26 <|
    am_callV (vs := [.int ((2 * (h.1 1 (37 + x2).toNatClampNeg)) + 1)]) (st := [.int (h.1 1 (31 + x2).toNatClampNeg), .int x1, .ref 0]) (k := 0) (ci := 10) rfl d_Model_drawnDown_27 rfl rfl w_1704 w_1706 w_71 w_94 w_1707 p_Model_draws (Nat.le_of_ble_eq_true rfl) (Nat.le_of_ble_eq_true rfl) rfl k
theorem b_Model_drawnDown_30 {d : Nat} {x1 : Int32} {x2 : Int32} {x3 : Int32} {y3 : Int32} {y2 : Int32} {y1 : Int32} {h : am_H} {Q : am_Q} (k : m_Model_downOf d [.ref 0, .int y1, .int y2, .int (y3 - x3)] h (fun r hh => am_W (X_Model_drawnDown (d + 1)) 35 [some (.ref 0), some (.int x1), some (.int x2), some (.int x3)] (r.toList ++ []) hh Q)) : am_W (X_Model_drawnDown (d + 1)) 30 [some (.ref 0), some (.int x1), some (.int x2), some (.int x3)] [.int y3, .int y2, .int y1, .ref 0] h Q :=
  am_iload_n d_Model_drawnDown_30 rfl (i := 3) rfl <|
    am_isub d_Model_drawnDown_31 <|
    am_callV (vs := [.int y1, .int y2, .int (y3 - x3)]) (st := []) (k := 0) (ci := 10) rfl d_Model_drawnDown_32 rfl rfl w_1578 w_1580 w_54 w_94 w_1581 p_Model_downOf (Nat.le_of_ble_eq_true rfl) (Nat.le_of_ble_eq_true rfl) rfl k
theorem b_Model_drawnDown_35 {d : Nat} {x1 : Int32} {x2 : Int32} {x3 : Int32} {y0 : Int32} {h : am_H} {Q : am_Q} (q : Q (some (.int y0)) h) : am_W (X_Model_drawnDown d) 35 [some (.ref 0), some (.int x1), some (.int x2), some (.int x3)] [.int y0] h Q :=
  am_iret rfl d_Model_drawnDown_35 q
theorem t_Model_drawnDown_35 {d : Nat} {x1 : Int32} {x2 : Int32} {x3 : Int32} {y0 : Int32} {h : am_H} {Q : am_Q} {res : Int32 × am_H} (e : f_Model_drawnDown_35 h y0 = some res) (q : Q (some (.int res.1)) res.2) : am_W (X_Model_drawnDown (d + 2)) 35 [some (.ref 0), some (.int x1), some (.int x2), some (.int x3)] [.int y0] h Q :=
  b_Model_drawnDown_35 (d := (d + 2)) (q := (am_rIpi (v := y0) e q))
theorem t_Model_drawnDown_30 {d : Nat} {x1 : Int32} {x2 : Int32} {x3 : Int32} {y3 : Int32} {y2 : Int32} {y1 : Int32} {h : am_H} {Q : am_Q} {res : Int32 × am_H} (e : f_Model_drawnDown_30 h x3 y3 y2 y1 = some res) (q : Q (some (.int res.1)) res.2) : am_W (X_Model_drawnDown (d + 2)) 30 [some (.ref 0), some (.int x1), some (.int x2), some (.int x3)] [.int y3, .int y2, .int y1, .ref 0] h Q :=
  (am_bd e).elim fun p hp => b_Model_drawnDown_30 (d := (d + 1)) (k := c_Model_downOf (d := d) hp.1 (t_Model_drawnDown_35 hp.2 q))
theorem t_Model_drawnDown_0 {d : Nat} {x1 : Int32} {x2 : Int32} {h : am_H} {Q : am_Q} {res : Int32 × am_H} (e : f_Model_drawnDown h x1 x2 = some res) (q : Q (some (.int res.1)) res.2) : am_W (X_Model_drawnDown (d + 2)) 0 [some (.ref 0), some (.int x1), some (.int x2), none] [] h Q :=
  (am_bd (am_ga (am_ga e))).elim fun p hp => b_Model_drawnDown_0 (d := (d + 1)) (q0 := (am_okv (am_gd e))) (q1 := (am_okv (am_gd (am_ga e)))) (k := c_Model_draws (d := d + 1) hp.1 (t_Model_drawnDown_30 hp.2 q))
theorem c_Model_drawnDown {d : Nat} {x1 : Int32} {x2 : Int32} {h : am_H} {Q : am_Q} {res : Int32 × am_H} (e : f_Model_drawnDown h x1 x2 = some res) (q : Q (some (.int res.1)) res.2) : m_Model_drawnDown (d + 2) [.ref 0, .int x1, .int x2] h Q :=
  e_Model_drawnDown (t_Model_drawnDown_0 e q)
theorem d_Model_drawnPutts_0 : decode prog_12_method_68_code 0 = .ok (.iload_n 1, 1) := by decide +kernel
theorem d_Model_drawnPutts_1 : decode prog_12_method_68_code 1 = .ok (.aload_n 0, 1) := by decide +kernel
theorem d_Model_drawnPutts_2 : decode prog_12_method_68_code 2 = .ok (.getfield 11, 3) := by decide +kernel
theorem d_Model_drawnPutts_5 : decode prog_12_method_68_code 5 = .ok (.bipush 49, 2) := by decide +kernel
theorem d_Model_drawnPutts_7 : decode prog_12_method_68_code 7 = .ok (.iaload, 1) := by decide +kernel
theorem d_Model_drawnPutts_8 : decode prog_12_method_68_code 8 = .ok (.if_icmp .eq 19, 3) := by decide +kernel
theorem d_Model_drawnPutts_11 : decode prog_12_method_68_code 11 = .ok (.aload_n 0, 1) := by decide +kernel
theorem d_Model_drawnPutts_12 : decode prog_12_method_68_code 12 = .ok (.bipush 12, 2) := by decide +kernel
theorem d_Model_drawnPutts_14 : decode prog_12_method_68_code 14 = .ok (.invokevirtual 286, 3) := by decide +kernel
theorem d_Model_drawnPutts_17 : decode prog_12_method_68_code 17 = .ok (.aload_n 0, 1) := by decide +kernel
theorem d_Model_drawnPutts_18 : decode prog_12_method_68_code 18 = .ok (.getfield 11, 3) := by decide +kernel
theorem d_Model_drawnPutts_21 : decode prog_12_method_68_code 21 = .ok (.bipush 51, 2) := by decide +kernel
theorem d_Model_drawnPutts_23 : decode prog_12_method_68_code 23 = .ok (.iaload, 1) := by decide +kernel
theorem d_Model_drawnPutts_24 : decode prog_12_method_68_code 24 = .ok (.if_icmp .ge 7, 3) := by decide +kernel
theorem d_Model_drawnPutts_27 : decode prog_12_method_68_code 27 = .ok (.iconst 1, 1) := by decide +kernel
theorem d_Model_drawnPutts_28 : decode prog_12_method_68_code 28 = .ok (.goto 4, 3) := by decide +kernel
theorem d_Model_drawnPutts_31 : decode prog_12_method_68_code 31 = .ok (.iconst 2, 1) := by decide +kernel
theorem d_Model_drawnPutts_32 : decode prog_12_method_68_code 32 = .ok (.ireturn, 1) := by decide +kernel
theorem b_Model_drawnPutts_0 {d : Nat} {x1 : Int32} {h : am_H} {Q : am_Q} (kt : x1 = (h.1 1 (49 : Int32).toNatClampNeg) → am_W (X_Model_drawnPutts d) 27 [some (.ref 0), some (.int x1)] [] h Q) (kf : ¬ x1 = (h.1 1 (49 : Int32).toNatClampNeg) → am_W (X_Model_drawnPutts d) 11 [some (.ref 0), some (.int x1)] [] h Q) : am_W (X_Model_drawnPutts d) 0 [some (.ref 0), some (.int x1)] [] h Q :=
  am_iload_n d_Model_drawnPutts_0 rfl (i := 1) rfl <|
    am_aload_n d_Model_drawnPutts_1 rfl (i := 0) rfl <|
    am_getR (ci := 10) (i := 0) rfl rfl rfl (Nat.le_of_ble_eq_true rfl) w_1318 d_Model_drawnPutts_2 <|
    am_bipush (v := 49) d_Model_drawnPutts_5 (by decide) <|
    am_iald rfl (am_vin (by decide)) d_Model_drawnPutts_7 <|
    am_icmp_eq (tgt := 27) d_Model_drawnPutts_8 (by decide) kt kf
theorem b_Model_drawnPutts_11 {d : Nat} {x1 : Int32} {h : am_H} {Q : am_Q} (k : m_Model_draws d [.ref 0, .int 12] h (fun r hh => am_W (X_Model_drawnPutts (d + 1)) 17 [some (.ref 0), some (.int x1)] (r.toList ++ []) hh Q)) : am_W (X_Model_drawnPutts (d + 1)) 11 [some (.ref 0), some (.int x1)] [] h Q :=
  am_aload_n d_Model_drawnPutts_11 rfl (i := 0) rfl <|
    am_bipush (v := 12) d_Model_drawnPutts_12 (by decide) <|
    am_callV (vs := [.int 12]) (st := []) (k := 0) (ci := 10) rfl d_Model_drawnPutts_14 rfl rfl w_1704 w_1706 w_71 w_94 w_1707 p_Model_draws (Nat.le_of_ble_eq_true rfl) (Nat.le_of_ble_eq_true rfl) rfl k
theorem b_Model_drawnPutts_17 {d : Nat} {x1 : Int32} {y0 : Int32} {h : am_H} {Q : am_Q} (kt : (h.1 1 (51 : Int32).toNatClampNeg) ≤ y0 → am_W (X_Model_drawnPutts d) 31 [some (.ref 0), some (.int x1)] [] h Q) (kf : ¬ (h.1 1 (51 : Int32).toNatClampNeg) ≤ y0 → am_W (X_Model_drawnPutts d) 27 [some (.ref 0), some (.int x1)] [] h Q) : am_W (X_Model_drawnPutts d) 17 [some (.ref 0), some (.int x1)] [.int y0] h Q :=
  am_aload_n d_Model_drawnPutts_17 rfl (i := 0) rfl <|
    am_getR (ci := 10) (i := 0) rfl rfl rfl (Nat.le_of_ble_eq_true rfl) w_1318 d_Model_drawnPutts_18 <|
    am_bipush (v := 51) d_Model_drawnPutts_21 (by decide) <|
    am_iald rfl (am_vin (by decide)) d_Model_drawnPutts_23 <|
    am_icmp_ge (tgt := 31) d_Model_drawnPutts_24 (by decide) kt kf
theorem b_Model_drawnPutts_27 {d : Nat} {x1 : Int32} {h : am_H} {Q : am_Q} (q : Q (some (.int 1)) h) : am_W (X_Model_drawnPutts d) 27 [some (.ref 0), some (.int x1)] [] h Q :=
  am_iconst (v := 1) d_Model_drawnPutts_27 (by decide) <|
    am_goto (tgt := 32) d_Model_drawnPutts_28 (by decide) <|
    am_iret rfl d_Model_drawnPutts_32 q
theorem b_Model_drawnPutts_31 {d : Nat} {x1 : Int32} {h : am_H} {Q : am_Q} (q : Q (some (.int 2)) h) : am_W (X_Model_drawnPutts d) 31 [some (.ref 0), some (.int x1)] [] h Q :=
  am_iconst (v := 2) d_Model_drawnPutts_31 (by decide) <|
    am_iret rfl d_Model_drawnPutts_32 q
theorem t_Model_drawnPutts_27 {d : Nat} {x1 : Int32} {h : am_H} {Q : am_Q} {res : Int32 × am_H} (e : f_Model_drawnPutts_27 h = some res) (q : Q (some (.int res.1)) res.2) : am_W (X_Model_drawnPutts (d + 1)) 27 [some (.ref 0), some (.int x1)] [] h Q :=
  b_Model_drawnPutts_27 (d := (d + 1)) (q := (am_rIpi (v := 1) e q))
theorem t_Model_drawnPutts_31 {d : Nat} {x1 : Int32} {h : am_H} {Q : am_Q} {res : Int32 × am_H} (e : f_Model_drawnPutts_31 h = some res) (q : Q (some (.int res.1)) res.2) : am_W (X_Model_drawnPutts (d + 1)) 31 [some (.ref 0), some (.int x1)] [] h Q :=
  b_Model_drawnPutts_31 (d := (d + 1)) (q := (am_rIpi (v := 2) e q))
theorem t_Model_drawnPutts_17 {d : Nat} {x1 : Int32} {y0 : Int32} {h : am_H} {Q : am_Q} {res : Int32 × am_H} (e : f_Model_drawnPutts_17 h y0 = some res) (q : Q (some (.int res.1)) res.2) : am_W (X_Model_drawnPutts (d + 1)) 17 [some (.ref 0), some (.int x1)] [.int y0] h Q :=
  b_Model_drawnPutts_17 (d := (d + 1)) (kt := fun c => (t_Model_drawnPutts_31 (am_ift e c) q)) (kf := fun c => (t_Model_drawnPutts_27 (am_ife e c) q))
theorem t_Model_drawnPutts_11 {d : Nat} {x1 : Int32} {h : am_H} {Q : am_Q} {res : Int32 × am_H} (e : f_Model_drawnPutts_11 h = some res) (q : Q (some (.int res.1)) res.2) : am_W (X_Model_drawnPutts (d + 1)) 11 [some (.ref 0), some (.int x1)] [] h Q :=
  (am_bd e).elim fun p hp => b_Model_drawnPutts_11 (d := d) (k := c_Model_draws (d := d) hp.1 (t_Model_drawnPutts_17 hp.2 q))
theorem t_Model_drawnPutts_0 {d : Nat} {x1 : Int32} {h : am_H} {Q : am_Q} {res : Int32 × am_H} (e : f_Model_drawnPutts h x1 = some res) (q : Q (some (.int res.1)) res.2) : am_W (X_Model_drawnPutts (d + 1)) 0 [some (.ref 0), some (.int x1)] [] h Q :=
  b_Model_drawnPutts_0 (d := (d + 1)) (kt := fun c => (t_Model_drawnPutts_27 (am_ift e c) q)) (kf := fun c => (t_Model_drawnPutts_11 (am_ife e c) q))
theorem c_Model_drawnPutts {d : Nat} {x1 : Int32} {h : am_H} {Q : am_Q} {res : Int32 × am_H} (e : f_Model_drawnPutts h x1 = some res) (q : Q (some (.int res.1)) res.2) : m_Model_drawnPutts (d + 1) [.ref 0, .int x1] h Q :=
  e_Model_drawnPutts (t_Model_drawnPutts_0 e q)
theorem d_Model_drawn_0 : decode prog_12_method_69_code 0 = .ok (.iload_n 2, 1) := by decide +kernel
theorem d_Model_drawn_1 : decode prog_12_method_69_code 1 = .ok (.ifCond .lt 36, 3) := by decide +kernel
theorem d_Model_drawn_4 : decode prog_12_method_69_code 4 = .ok (.iload_n 2, 1) := by decide +kernel
theorem d_Model_drawn_5 : decode prog_12_method_69_code 5 = .ok (.bipush 10, 2) := by decide +kernel
theorem d_Model_drawn_7 : decode prog_12_method_69_code 7 = .ok (.idiv, 1) := by decide +kernel
theorem d_Model_drawn_8 : decode prog_12_method_69_code 8 = .ok (.i2l, 1) := by decide +kernel
theorem d_Model_drawn_9 : decode prog_12_method_69_code 9 = .ok (.lconst 1, 1) := by decide +kernel
theorem d_Model_drawn_10 : decode prog_12_method_69_code 10 = .ok (.ldc2_w 289, 3) := by decide +kernel
theorem d_Model_drawn_13 : decode prog_12_method_69_code 13 = .ok (.invokestatic 83, 3) := by decide +kernel
theorem d_Model_drawn_16 : decode prog_12_method_69_code 16 = .ok (.ifCond .eq 21, 3) := by decide +kernel
theorem d_Model_drawn_19 : decode prog_12_method_69_code 19 = .ok (.iload_n 2, 1) := by decide +kernel
theorem d_Model_drawn_20 : decode prog_12_method_69_code 20 = .ok (.bipush 10, 2) := by decide +kernel
theorem d_Model_drawn_22 : decode prog_12_method_69_code 22 = .ok (.irem, 1) := by decide +kernel
theorem d_Model_drawn_23 : decode prog_12_method_69_code 23 = .ok (.iconst 1, 1) := by decide +kernel
theorem d_Model_drawn_24 : decode prog_12_method_69_code 24 = .ok (.if_icmp .gt 13, 3) := by decide +kernel
theorem d_Model_drawn_27 : decode prog_12_method_69_code 27 = .ok (.iload_n 3, 1) := by decide +kernel
theorem d_Model_drawn_28 : decode prog_12_method_69_code 28 = .ok (.i2l, 1) := by decide +kernel
theorem d_Model_drawn_29 : decode prog_12_method_69_code 29 = .ok (.lconst 0, 1) := by decide +kernel
theorem d_Model_drawn_30 : decode prog_12_method_69_code 30 = .ok (.lconst 1, 1) := by decide +kernel
theorem d_Model_drawn_31 : decode prog_12_method_69_code 31 = .ok (.invokestatic 83, 3) := by decide +kernel
theorem d_Model_drawn_34 : decode prog_12_method_69_code 34 = .ok (.ifCond .ne 5, 3) := by decide +kernel
theorem d_Model_drawn_37 : decode prog_12_method_69_code 37 = .ok (.iconst (-1), 1) := by decide +kernel
theorem d_Model_drawn_38 : decode prog_12_method_69_code 38 = .ok (.ireturn, 1) := by decide +kernel
theorem d_Model_drawn_39 : decode prog_12_method_69_code 39 = .ok (.aload_n 0, 1) := by decide +kernel
theorem d_Model_drawn_40 : decode prog_12_method_69_code 40 = .ok (.getfield 80, 3) := by decide +kernel
theorem d_Model_drawn_43 : decode prog_12_method_69_code 43 = .ok (.ifCond .ne 6, 3) := by decide +kernel
theorem d_Model_drawn_46 : decode prog_12_method_69_code 46 = .ok (.bipush (-5), 2) := by decide +kernel
theorem d_Model_drawn_48 : decode prog_12_method_69_code 48 = .ok (.ireturn, 1) := by decide +kernel
theorem d_Model_drawn_49 : decode prog_12_method_69_code 49 = .ok (.aload_n 0, 1) := by decide +kernel
theorem d_Model_drawn_50 : decode prog_12_method_69_code 50 = .ok (.iload_n 2, 1) := by decide +kernel
theorem d_Model_drawn_51 : decode prog_12_method_69_code 51 = .ok (.bipush 10, 2) := by decide +kernel
theorem d_Model_drawn_53 : decode prog_12_method_69_code 53 = .ok (.irem, 1) := by decide +kernel
theorem d_Model_drawn_54 : decode prog_12_method_69_code 54 = .ok (.invokevirtual 251, 3) := by decide +kernel
theorem d_Model_drawn_57 : decode prog_12_method_69_code 57 = .ok (.aload_n 0, 1) := by decide +kernel
theorem d_Model_drawn_58 : decode prog_12_method_69_code 58 = .ok (.iload_n 1, 1) := by decide +kernel
theorem d_Model_drawn_59 : decode prog_12_method_69_code 59 = .ok (.putfield 282, 3) := by decide +kernel
theorem d_Model_drawn_62 : decode prog_12_method_69_code 62 = .ok (.iconst 0, 1) := by decide +kernel
theorem d_Model_drawn_63 : decode prog_12_method_69_code 63 = .ok (.istore 4, 2) := by decide +kernel
theorem d_Model_drawn_65 : decode prog_12_method_69_code 65 = .ok (.iconst 0, 1) := by decide +kernel
theorem d_Model_drawn_66 : decode prog_12_method_69_code 66 = .ok (.istore 5, 2) := by decide +kernel
theorem d_Model_drawn_68 : decode prog_12_method_69_code 68 = .ok (.iconst 0, 1) := by decide +kernel
theorem d_Model_drawn_69 : decode prog_12_method_69_code 69 = .ok (.istore 6, 2) := by decide +kernel
theorem d_Model_drawn_71 : decode prog_12_method_69_code 71 = .ok (.iload 6, 2) := by decide +kernel
theorem d_Model_drawn_73 : decode prog_12_method_69_code 73 = .ok (.iload_n 2, 1) := by decide +kernel
theorem d_Model_drawn_74 : decode prog_12_method_69_code 74 = .ok (.bipush 10, 2) := by decide +kernel
theorem d_Model_drawn_76 : decode prog_12_method_69_code 76 = .ok (.idiv, 1) := by decide +kernel
theorem d_Model_drawn_77 : decode prog_12_method_69_code 77 = .ok (.if_icmp .ge 135, 3) := by decide +kernel
theorem d_Model_drawn_80 : decode prog_12_method_69_code 80 = .ok (.iconst 0, 1) := by decide +kernel
theorem d_Model_drawn_81 : decode prog_12_method_69_code 81 = .ok (.istore 7, 2) := by decide +kernel
theorem d_Model_drawn_83 : decode prog_12_method_69_code 83 = .ok (.iconst 0, 1) := by decide +kernel
theorem d_Model_drawn_84 : decode prog_12_method_69_code 84 = .ok (.istore 8, 2) := by decide +kernel
theorem d_Model_drawn_86 : decode prog_12_method_69_code 86 = .ok (.iload 8, 2) := by decide +kernel
theorem d_Model_drawn_88 : decode prog_12_method_69_code 88 = .ok (.bipush 12, 2) := by decide +kernel
theorem d_Model_drawn_90 : decode prog_12_method_69_code 90 = .ok (.if_icmp .ge 92, 3) := by decide +kernel
theorem d_Model_drawn_93 : decode prog_12_method_69_code 93 = .ok (.aload_n 0, 1) := by decide +kernel
theorem d_Model_drawn_94 : decode prog_12_method_69_code 94 = .ok (.iload 7, 2) := by decide +kernel
theorem d_Model_drawn_96 : decode prog_12_method_69_code 96 = .ok (.invokevirtual 89, 3) := by decide +kernel
theorem d_Model_drawn_99 : decode prog_12_method_69_code 99 = .ok (.ifCond .ne 83, 3) := by decide +kernel
theorem d_Model_drawn_102 : decode prog_12_method_69_code 102 = .ok (.aload_n 0, 1) := by decide +kernel
theorem d_Model_drawn_103 : decode prog_12_method_69_code 103 = .ok (.iload 7, 2) := by decide +kernel
theorem d_Model_drawn_105 : decode prog_12_method_69_code 105 = .ok (.aload_n 0, 1) := by decide +kernel
theorem d_Model_drawn_106 : decode prog_12_method_69_code 106 = .ok (.getfield 37, 3) := by decide +kernel
theorem d_Model_drawn_109 : decode prog_12_method_69_code 109 = .ok (.bipush 93, 2) := by decide +kernel
theorem d_Model_drawn_111 : decode prog_12_method_69_code 111 = .ok (.iload 7, 2) := by decide +kernel
theorem d_Model_drawn_113 : decode prog_12_method_69_code 113 = .ok (.iadd, 1) := by decide +kernel
theorem d_Model_drawn_114 : decode prog_12_method_69_code 114 = .ok (.iaload, 1) := by decide +kernel
theorem d_Model_drawn_115 : decode prog_12_method_69_code 115 = .ok (.invokevirtual 291, 3) := by decide +kernel
theorem d_Model_drawn_118 : decode prog_12_method_69_code 118 = .ok (.istore 9, 2) := by decide +kernel
theorem d_Model_drawn_120 : decode prog_12_method_69_code 120 = .ok (.iload 4, 2) := by decide +kernel
theorem d_Model_drawn_122 : decode prog_12_method_69_code 122 = .ok (.aload_n 0, 1) := by decide +kernel
theorem d_Model_drawn_123 : decode prog_12_method_69_code 123 = .ok (.iload 9, 2) := by decide +kernel
theorem d_Model_drawn_125 : decode prog_12_method_69_code 125 = .ok (.invokevirtual 217, 3) := by decide +kernel
theorem d_Model_drawn_128 : decode prog_12_method_69_code 128 = .ok (.ifCond .eq 7, 3) := by decide +kernel
theorem d_Model_drawn_131 : decode prog_12_method_69_code 131 = .ok (.iconst 2, 1) := by decide +kernel
theorem d_Model_drawn_132 : decode prog_12_method_69_code 132 = .ok (.goto 4, 3) := by decide +kernel
theorem d_Model_drawn_135 : decode prog_12_method_69_code 135 = .ok (.iconst 1, 1) := by decide +kernel
theorem d_Model_drawn_136 : decode prog_12_method_69_code 136 = .ok (.iadd, 1) := by decide +kernel
theorem d_Model_drawn_137 : decode prog_12_method_69_code 137 = .ok (.istore 4, 2) := by decide +kernel
theorem d_Model_drawn_139 : decode prog_12_method_69_code 139 = .ok (.iload 5, 2) := by decide +kernel
theorem d_Model_drawn_141 : decode prog_12_method_69_code 141 = .ok (.aload_n 0, 1) := by decide +kernel
theorem d_Model_drawn_142 : decode prog_12_method_69_code 142 = .ok (.iload 9, 2) := by decide +kernel
theorem d_Model_drawn_144 : decode prog_12_method_69_code 144 = .ok (.invokevirtual 217, 3) := by decide +kernel
theorem d_Model_drawn_147 : decode prog_12_method_69_code 147 = .ok (.ifCond .eq 7, 3) := by decide +kernel
theorem d_Model_drawn_150 : decode prog_12_method_69_code 150 = .ok (.iconst 1, 1) := by decide +kernel
theorem d_Model_drawn_151 : decode prog_12_method_69_code 151 = .ok (.goto 4, 3) := by decide +kernel
theorem d_Model_drawn_154 : decode prog_12_method_69_code 154 = .ok (.iconst 0, 1) := by decide +kernel
theorem d_Model_drawn_155 : decode prog_12_method_69_code 155 = .ok (.iadd, 1) := by decide +kernel
theorem d_Model_drawn_156 : decode prog_12_method_69_code 156 = .ok (.istore 5, 2) := by decide +kernel
theorem d_Model_drawn_158 : decode prog_12_method_69_code 158 = .ok (.aload_n 0, 1) := by decide +kernel
theorem d_Model_drawn_159 : decode prog_12_method_69_code 159 = .ok (.iload 9, 2) := by decide +kernel
theorem d_Model_drawn_161 : decode prog_12_method_69_code 161 = .ok (.invokevirtual 217, 3) := by decide +kernel
theorem d_Model_drawn_164 : decode prog_12_method_69_code 164 = .ok (.ifCond .eq 8, 3) := by decide +kernel
theorem d_Model_drawn_167 : decode prog_12_method_69_code 167 = .ok (.iload 7, 2) := by decide +kernel
theorem d_Model_drawn_169 : decode prog_12_method_69_code 169 = .ok (.goto 5, 3) := by decide +kernel
theorem d_Model_drawn_172 : decode prog_12_method_69_code 172 = .ok (.iload 9, 2) := by decide +kernel
theorem d_Model_drawn_174 : decode prog_12_method_69_code 174 = .ok (.istore 7, 2) := by decide +kernel
theorem d_Model_drawn_176 : decode prog_12_method_69_code 176 = .ok (.iinc 8 1, 3) := by decide +kernel
theorem d_Model_drawn_179 : decode prog_12_method_69_code 179 = .ok (.goto (-93), 3) := by decide +kernel
theorem d_Model_drawn_182 : decode prog_12_method_69_code 182 = .ok (.iload 4, 2) := by decide +kernel
theorem d_Model_drawn_184 : decode prog_12_method_69_code 184 = .ok (.aload_n 0, 1) := by decide +kernel
theorem d_Model_drawn_185 : decode prog_12_method_69_code 185 = .ok (.iload 7, 2) := by decide +kernel
theorem d_Model_drawn_187 : decode prog_12_method_69_code 187 = .ok (.invokevirtual 89, 3) := by decide +kernel
theorem d_Model_drawn_190 : decode prog_12_method_69_code 190 = .ok (.ifCond .eq 12, 3) := by decide +kernel
theorem d_Model_drawn_193 : decode prog_12_method_69_code 193 = .ok (.aload_n 0, 1) := by decide +kernel
theorem d_Model_drawn_194 : decode prog_12_method_69_code 194 = .ok (.iload 7, 2) := by decide +kernel
theorem d_Model_drawn_196 : decode prog_12_method_69_code 196 = .ok (.invokevirtual 294, 3) := by decide +kernel
theorem d_Model_drawn_199 : decode prog_12_method_69_code 199 = .ok (.goto 4, 3) := by decide +kernel
theorem d_Model_drawn_202 : decode prog_12_method_69_code 202 = .ok (.iconst 5, 1) := by decide +kernel
theorem d_Model_drawn_203 : decode prog_12_method_69_code 203 = .ok (.iadd, 1) := by decide +kernel
theorem d_Model_drawn_204 : decode prog_12_method_69_code 204 = .ok (.istore 4, 2) := by decide +kernel
theorem d_Model_drawn_206 : decode prog_12_method_69_code 206 = .ok (.iinc 6 1, 3) := by decide +kernel
theorem d_Model_drawn_209 : decode prog_12_method_69_code 209 = .ok (.goto (-138), 3) := by decide +kernel
theorem d_Model_drawn_212 : decode prog_12_method_69_code 212 = .ok (.iload_n 3, 1) := by decide +kernel
theorem d_Model_drawn_213 : decode prog_12_method_69_code 213 = .ok (.ifCond .ne 8, 3) := by decide +kernel
theorem d_Model_drawn_216 : decode prog_12_method_69_code 216 = .ok (.iload 4, 2) := by decide +kernel
theorem d_Model_drawn_218 : decode prog_12_method_69_code 218 = .ok (.goto 5, 3) := by decide +kernel
theorem d_Model_drawn_221 : decode prog_12_method_69_code 221 = .ok (.iload 5, 2) := by decide +kernel
theorem d_Model_drawn_223 : decode prog_12_method_69_code 223 = .ok (.ireturn, 1) := by decide +kernel
theorem b_Model_drawn_0 {d : Nat} {x1 : Int32} {x2 : Int32} {x3 : Int32} {h : am_H} {Q : am_Q} (kt : x2 < 0 → am_W (X_Model_drawn d) 37 [some (.ref 0), some (.int x1), some (.int x2), some (.int x3), none, none, none, none, none, none] [] h Q) (kf : ¬ x2 < 0 → am_W (X_Model_drawn d) 4 [some (.ref 0), some (.int x1), some (.int x2), some (.int x3), none, none, none, none, none, none] [] h Q) : am_W (X_Model_drawn d) 0 [some (.ref 0), some (.int x1), some (.int x2), some (.int x3), none, none, none, none, none, none] [] h Q :=
  am_iload_n d_Model_drawn_0 rfl (i := 2) rfl <|
    am_if_lt (tgt := 37) d_Model_drawn_1 (by decide) kt kf
theorem b_Model_drawn_4 {d : Nat} {x1 : Int32} {x2 : Int32} {x3 : Int32} {h : am_H} {Q : am_Q} (k : m_Model_within d [.long ((x2 / 10).toInt64), .long 1, .long 20] h (fun r hh => am_W (X_Model_drawn (d + 1)) 16 [some (.ref 0), some (.int x1), some (.int x2), some (.int x3), none, none, none, none, none, none] (r.toList ++ []) hh Q)) : am_W (X_Model_drawn (d + 1)) 4 [some (.ref 0), some (.int x1), some (.int x2), some (.int x3), none, none, none, none, none, none] [] h Q :=
  am_iload_n d_Model_drawn_4 rfl (i := 2) rfl <|
    am_bipush (v := 10) d_Model_drawn_5 (by decide) <|
    am_idiv d_Model_drawn_7 (by decide) <|
    am_i2l d_Model_drawn_8 <|
    am_lconst (v := 1) d_Model_drawn_9 (by decide) <|
    am_ldc2 (v := 20) d_Model_drawn_10 w_1699 <|
    am_callS (vs := [.long ((x2 / 10).toInt64), .long 1, .long 20]) (st := []) rfl d_Model_drawn_13 w_1443 w_1444 w_94 w_1445 p_Model_within (Nat.le_of_ble_eq_true rfl) (Nat.le_of_ble_eq_true rfl) rfl k
theorem b_Model_drawn_16 {d : Nat} {x1 : Int32} {x2 : Int32} {x3 : Int32} {y0 : Bool} {h : am_H} {Q : am_Q} (kt : (am_b y0) = 0 → am_W (X_Model_drawn d) 37 [some (.ref 0), some (.int x1), some (.int x2), some (.int x3), none, none, none, none, none, none] [] h Q) (kf : ¬ (am_b y0) = 0 → am_W (X_Model_drawn d) 19 [some (.ref 0), some (.int x1), some (.int x2), some (.int x3), none, none, none, none, none, none] [] h Q) : am_W (X_Model_drawn d) 16 [some (.ref 0), some (.int x1), some (.int x2), some (.int x3), none, none, none, none, none, none] [.int (am_b y0)] h Q :=
  am_if_eq (tgt := 37) d_Model_drawn_16 (by decide) kt kf
theorem b_Model_drawn_19 {d : Nat} {x1 : Int32} {x2 : Int32} {x3 : Int32} {h : am_H} {Q : am_Q} (kt : 1 < (x2 - x2 / 10 * 10) → am_W (X_Model_drawn d) 37 [some (.ref 0), some (.int x1), some (.int x2), some (.int x3), none, none, none, none, none, none] [] h Q) (kf : ¬ 1 < (x2 - x2 / 10 * 10) → am_W (X_Model_drawn d) 27 [some (.ref 0), some (.int x1), some (.int x2), some (.int x3), none, none, none, none, none, none] [] h Q) : am_W (X_Model_drawn d) 19 [some (.ref 0), some (.int x1), some (.int x2), some (.int x3), none, none, none, none, none, none] [] h Q :=
  am_iload_n d_Model_drawn_19 rfl (i := 2) rfl <|
    am_bipush (v := 10) d_Model_drawn_20 (by decide) <|
    am_irem d_Model_drawn_22 (by decide) <|
    am_iconst (v := 1) d_Model_drawn_23 (by decide) <|
    am_icmp_gt (tgt := 37) d_Model_drawn_24 (by decide) kt kf
theorem b_Model_drawn_27 {d : Nat} {x1 : Int32} {x2 : Int32} {x3 : Int32} {h : am_H} {Q : am_Q} (k : m_Model_within d [.long x3.toInt64, .long 0, .long 1] h (fun r hh => am_W (X_Model_drawn (d + 1)) 34 [some (.ref 0), some (.int x1), some (.int x2), some (.int x3), none, none, none, none, none, none] (r.toList ++ []) hh Q)) : am_W (X_Model_drawn (d + 1)) 27 [some (.ref 0), some (.int x1), some (.int x2), some (.int x3), none, none, none, none, none, none] [] h Q :=
  am_iload_n d_Model_drawn_27 rfl (i := 3) rfl <|
    am_i2l d_Model_drawn_28 <|
    am_lconst (v := 0) d_Model_drawn_29 (by decide) <|
    am_lconst (v := 1) d_Model_drawn_30 (by decide) <|
    am_callS (vs := [.long x3.toInt64, .long 0, .long 1]) (st := []) rfl d_Model_drawn_31 w_1443 w_1444 w_94 w_1445 p_Model_within (Nat.le_of_ble_eq_true rfl) (Nat.le_of_ble_eq_true rfl) rfl k
theorem b_Model_drawn_34 {d : Nat} {x1 : Int32} {x2 : Int32} {x3 : Int32} {y0 : Bool} {h : am_H} {Q : am_Q} (kt : ¬ (am_b y0) = 0 → am_W (X_Model_drawn d) 39 [some (.ref 0), some (.int x1), some (.int x2), some (.int x3), none, none, none, none, none, none] [] h Q) (kf : (am_b y0) = 0 → am_W (X_Model_drawn d) 37 [some (.ref 0), some (.int x1), some (.int x2), some (.int x3), none, none, none, none, none, none] [] h Q) : am_W (X_Model_drawn d) 34 [some (.ref 0), some (.int x1), some (.int x2), some (.int x3), none, none, none, none, none, none] [.int (am_b y0)] h Q :=
  am_if_ne (tgt := 39) d_Model_drawn_34 (by decide) kt kf
theorem b_Model_drawn_37 {d : Nat} {x1 : Int32} {x2 : Int32} {x3 : Int32} {h : am_H} {Q : am_Q} (q : Q (some (.int (-1))) h) : am_W (X_Model_drawn d) 37 [some (.ref 0), some (.int x1), some (.int x2), some (.int x3), none, none, none, none, none, none] [] h Q :=
  am_iconst (v := (-1)) d_Model_drawn_37 (by decide) <|
    am_iret rfl d_Model_drawn_38 q
theorem b_Model_drawn_39 {d : Nat} {x1 : Int32} {x2 : Int32} {x3 : Int32} {h : am_H} {Q : am_Q} (kt : ¬ (h.1 0 6) = 0 → am_W (X_Model_drawn d) 49 [some (.ref 0), some (.int x1), some (.int x2), some (.int x3), none, none, none, none, none, none] [] h Q) (kf : (h.1 0 6) = 0 → am_W (X_Model_drawn d) 46 [some (.ref 0), some (.int x1), some (.int x2), some (.int x3), none, none, none, none, none, none] [] h Q) : am_W (X_Model_drawn d) 39 [some (.ref 0), some (.int x1), some (.int x2), some (.int x3), none, none, none, none, none, none] [] h Q :=
  am_aload_n d_Model_drawn_39 rfl (i := 0) rfl <|
    am_getI (ci := 10) (i := 6) rfl rfl rfl (Nat.le_of_ble_eq_true rfl) w_1324 d_Model_drawn_40 <|
    am_if_ne (tgt := 49) d_Model_drawn_43 (by decide) kt kf
theorem b_Model_drawn_46 {d : Nat} {x1 : Int32} {x2 : Int32} {x3 : Int32} {h : am_H} {Q : am_Q} (q : Q (some (.int (-5))) h) : am_W (X_Model_drawn d) 46 [some (.ref 0), some (.int x1), some (.int x2), some (.int x3), none, none, none, none, none, none] [] h Q :=
  am_bipush (v := (-5)) d_Model_drawn_46 (by decide) <|
    am_iret rfl d_Model_drawn_48 q
theorem b_Model_drawn_49 {d : Nat} {x1 : Int32} {x2 : Int32} {x3 : Int32} {h : am_H} {Q : am_Q} (k : m_Model_fills d [.ref 0, .int (x2 - x2 / 10 * 10)] h (fun r hh => am_W (X_Model_drawn (d + 1)) 57 [some (.ref 0), some (.int x1), some (.int x2), some (.int x3), none, none, none, none, none, none] (r.toList ++ []) hh Q)) : am_W (X_Model_drawn (d + 1)) 49 [some (.ref 0), some (.int x1), some (.int x2), some (.int x3), none, none, none, none, none, none] [] h Q :=
  am_aload_n d_Model_drawn_49 rfl (i := 0) rfl <|
    am_iload_n d_Model_drawn_50 rfl (i := 2) rfl <|
    am_bipush (v := 10) d_Model_drawn_51 (by decide) <|
    am_irem d_Model_drawn_53 (by decide) <|
    am_callV (vs := [.int (x2 - x2 / 10 * 10)]) (st := []) (k := 0) (ci := 10) rfl d_Model_drawn_54 rfl rfl w_1617 w_1619 w_59 w_94 w_1620 p_Model_fills (Nat.le_of_ble_eq_true rfl) (Nat.le_of_ble_eq_true rfl) rfl k
theorem b_Model_drawn_57 {d : Nat} {x1 : Int32} {x2 : Int32} {x3 : Int32} {h : am_H} {Q : am_Q} (k : am_W (X_Model_drawn d) 71 [some (.ref 0), some (.int x1), some (.int x2), some (.int x3), some (.int 0), some (.int 0), some (.int 0), none, none, none] [] (am_pI h 0 21 x1) Q) : am_W (X_Model_drawn d) 57 [some (.ref 0), some (.int x1), some (.int x2), some (.int x3), none, none, none, none, none, none] [] h Q :=
  am_aload_n d_Model_drawn_57 rfl (i := 0) rfl <|
    am_iload_n d_Model_drawn_58 rfl (i := 1) rfl <|
    am_putI (ci := 10) (i := 21) rfl rfl rfl (Nat.le_of_ble_eq_true rfl) w_1339 rfl rfl rfl d_Model_drawn_59 <|
    am_iconst (v := 0) d_Model_drawn_62 (by decide) <|
    am_istore (ls' := [some (.ref 0), some (.int x1), some (.int x2), some (.int x3), some (.int 0), none, none, none, none, none]) d_Model_drawn_63 (Nat.le_of_ble_eq_true rfl) rfl <|
    am_iconst (v := 0) d_Model_drawn_65 (by decide) <|
    am_istore (ls' := [some (.ref 0), some (.int x1), some (.int x2), some (.int x3), some (.int 0), some (.int 0), none, none, none, none]) d_Model_drawn_66 (Nat.le_of_ble_eq_true rfl) rfl <|
    am_iconst (v := 0) d_Model_drawn_68 (by decide) <|
    am_istore (ls' := [some (.ref 0), some (.int x1), some (.int x2), some (.int x3), some (.int 0), some (.int 0), some (.int 0), none, none, none]) d_Model_drawn_69 (Nat.le_of_ble_eq_true rfl) rfl <|
    k
theorem b_Model_drawn_71 {d : Nat} {x1 : Int32} {x2 : Int32} {x3 : Int32} {x4 : Int32} {x5 : Int32} {x6 : Int32} {h : am_H} {Q : am_Q} (kt : (x2 / 10) ≤ x6 → am_W (X_Model_drawn d) 212 [some (.ref 0), some (.int x1), some (.int x2), some (.int x3), some (.int x4), some (.int x5), some (.int x6), none, none, none] [] h Q) (kf : ¬ (x2 / 10) ≤ x6 → am_W (X_Model_drawn d) 80 [some (.ref 0), some (.int x1), some (.int x2), some (.int x3), some (.int x4), some (.int x5), some (.int x6), none, none, none] [] h Q) : am_W (X_Model_drawn d) 71 [some (.ref 0), some (.int x1), some (.int x2), some (.int x3), some (.int x4), some (.int x5), some (.int x6), none, none, none] [] h Q :=
  am_iload d_Model_drawn_71 rfl <|
    am_iload_n d_Model_drawn_73 rfl (i := 2) rfl <|
    am_bipush (v := 10) d_Model_drawn_74 (by decide) <|
    am_idiv d_Model_drawn_76 (by decide) <|
    am_icmp_ge (tgt := 212) d_Model_drawn_77 (by decide) kt kf
theorem b_Model_drawn_80 {d : Nat} {x1 : Int32} {x2 : Int32} {x3 : Int32} {x4 : Int32} {x5 : Int32} {x6 : Int32} {h : am_H} {Q : am_Q} (k : am_W (X_Model_drawn d) 86 [some (.ref 0), some (.int x1), some (.int x2), some (.int x3), some (.int x4), some (.int x5), some (.int x6), some (.int 0), some (.int 0), none] [] h Q) : am_W (X_Model_drawn d) 80 [some (.ref 0), some (.int x1), some (.int x2), some (.int x3), some (.int x4), some (.int x5), some (.int x6), none, none, none] [] h Q :=
  am_iconst (v := 0) d_Model_drawn_80 (by decide) <|
    am_istore (ls' := [some (.ref 0), some (.int x1), some (.int x2), some (.int x3), some (.int x4), some (.int x5), some (.int x6), some (.int 0), none, none]) d_Model_drawn_81 (Nat.le_of_ble_eq_true rfl) rfl <|
    am_iconst (v := 0) d_Model_drawn_83 (by decide) <|
    am_istore (ls' := [some (.ref 0), some (.int x1), some (.int x2), some (.int x3), some (.int x4), some (.int x5), some (.int x6), some (.int 0), some (.int 0), none]) d_Model_drawn_84 (Nat.le_of_ble_eq_true rfl) rfl <|
    k
theorem b_Model_drawn_86 {d : Nat} {x1 : Int32} {x2 : Int32} {x3 : Int32} {x4 : Int32} {x5 : Int32} {x6 : Int32} {x7 : Int32} {x8 : Int32} {h : am_H} {Q : am_Q} (kt : 12 ≤ x8 → am_W (X_Model_drawn d) 182 [some (.ref 0), some (.int x1), some (.int x2), some (.int x3), some (.int x4), some (.int x5), some (.int x6), some (.int x7), some (.int x8), none] [] h Q) (kf : ¬ 12 ≤ x8 → am_W (X_Model_drawn d) 93 [some (.ref 0), some (.int x1), some (.int x2), some (.int x3), some (.int x4), some (.int x5), some (.int x6), some (.int x7), some (.int x8), none] [] h Q) : am_W (X_Model_drawn d) 86 [some (.ref 0), some (.int x1), some (.int x2), some (.int x3), some (.int x4), some (.int x5), some (.int x6), some (.int x7), some (.int x8), none] [] h Q :=
  am_iload d_Model_drawn_86 rfl <|
    am_bipush (v := 12) d_Model_drawn_88 (by decide) <|
    am_icmp_ge (tgt := 182) d_Model_drawn_90 (by decide) kt kf
theorem b_Model_drawn_93 {d : Nat} {x1 : Int32} {x2 : Int32} {x3 : Int32} {x4 : Int32} {x5 : Int32} {x6 : Int32} {x7 : Int32} {x8 : Int32} {h : am_H} {Q : am_Q} (k : m_Model_isGreen d [.ref 0, .int x7] h (fun r hh => am_W (X_Model_drawn (d + 1)) 99 [some (.ref 0), some (.int x1), some (.int x2), some (.int x3), some (.int x4), some (.int x5), some (.int x6), some (.int x7), some (.int x8), none] (r.toList ++ []) hh Q)) : am_W (X_Model_drawn (d + 1)) 93 [some (.ref 0), some (.int x1), some (.int x2), some (.int x3), some (.int x4), some (.int x5), some (.int x6), some (.int x7), some (.int x8), none] [] h Q :=
  am_aload_n d_Model_drawn_93 rfl (i := 0) rfl <|
    am_iload d_Model_drawn_94 rfl <|
    am_callV (vs := [.int x7]) (st := []) (k := 0) (ci := 10) rfl d_Model_drawn_96 rfl rfl w_1550 w_1552 w_49 w_94 w_1553 p_Model_isGreen (Nat.le_of_ble_eq_true rfl) (Nat.le_of_ble_eq_true rfl) rfl k
theorem b_Model_drawn_99 {d : Nat} {x1 : Int32} {x2 : Int32} {x3 : Int32} {x4 : Int32} {x5 : Int32} {x6 : Int32} {x7 : Int32} {x8 : Int32} {y0 : Bool} {h : am_H} {Q : am_Q} (kt : ¬ (am_b y0) = 0 → am_W (X_Model_drawn d) 182 [some (.ref 0), some (.int x1), some (.int x2), some (.int x3), some (.int x4), some (.int x5), some (.int x6), some (.int x7), some (.int x8), none] [] h Q) (kf : (am_b y0) = 0 → am_W (X_Model_drawn d) 102 [some (.ref 0), some (.int x1), some (.int x2), some (.int x3), some (.int x4), some (.int x5), some (.int x6), some (.int x7), some (.int x8), none] [] h Q) : am_W (X_Model_drawn d) 99 [some (.ref 0), some (.int x1), some (.int x2), some (.int x3), some (.int x4), some (.int x5), some (.int x6), some (.int x7), some (.int x8), none] [.int (am_b y0)] h Q :=
  am_if_ne (tgt := 182) d_Model_drawn_99 (by decide) kt kf
theorem b_Model_drawn_102 {d : Nat} {x1 : Int32} {x2 : Int32} {x3 : Int32} {x4 : Int32} {x5 : Int32} {x6 : Int32} {x7 : Int32} {x8 : Int32} {h : am_H} {Q : am_Q} (q0 : vp_in (93 + x7) 155) (k : m_Model_drawnDown d [.ref 0, .int x7, .int (h.1 9 (93 + x7).toNatClampNeg)] h (fun r hh => am_W (X_Model_drawn (d + 1)) 118 [some (.ref 0), some (.int x1), some (.int x2), some (.int x3), some (.int x4), some (.int x5), some (.int x6), some (.int x7), some (.int x8), none] (r.toList ++ []) hh Q)) : am_W (X_Model_drawn (d + 1)) 102 [some (.ref 0), some (.int x1), some (.int x2), some (.int x3), some (.int x4), some (.int x5), some (.int x6), some (.int x7), some (.int x8), none] [] h Q :=
  am_aload_n d_Model_drawn_102 rfl (i := 0) rfl <|
    am_iload d_Model_drawn_103 rfl <|
    am_aload_n d_Model_drawn_105 rfl (i := 0) rfl <|
    am_getR (ci := 10) (i := 18) rfl rfl rfl (Nat.le_of_ble_eq_true rfl) w_1336 d_Model_drawn_106 <|
    am_bipush (v := 93) d_Model_drawn_109 (by decide) <|
    am_iload d_Model_drawn_111 rfl <|
    am_iadd d_Model_drawn_113 <|
    am_iald rfl q0 d_Model_drawn_114 <|
    am_callV (vs := [.int x7, .int (h.1 9 (93 + x7).toNatClampNeg)]) (st := []) (k := 0) (ci := 10) rfl d_Model_drawn_115 rfl rfl w_1700 w_1702 w_70 w_94 w_1703 p_Model_drawnDown (Nat.le_of_ble_eq_true rfl) (Nat.le_of_ble_eq_true rfl) rfl k
theorem b_Model_drawn_118 {d : Nat} {x1 : Int32} {x2 : Int32} {x3 : Int32} {x4 : Int32} {x5 : Int32} {x6 : Int32} {x7 : Int32} {x8 : Int32} {y0 : Int32} {h : am_H} {Q : am_Q} (k : m_Model_isWater d [.ref 0, .int y0] h (fun r hh => am_W (X_Model_drawn (d + 1)) 128 [some (.ref 0), some (.int x1), some (.int x2), some (.int x3), some (.int x4), some (.int x5), some (.int x6), some (.int x7), some (.int x8), some (.int y0)] (r.toList ++ [.int x4]) hh Q)) : am_W (X_Model_drawn (d + 1)) 118 [some (.ref 0), some (.int x1), some (.int x2), some (.int x3), some (.int x4), some (.int x5), some (.int x6), some (.int x7), some (.int x8), none] [.int y0] h Q :=
  am_istore (ls' := [some (.ref 0), some (.int x1), some (.int x2), some (.int x3), some (.int x4), some (.int x5), some (.int x6), some (.int x7), some (.int x8), some (.int y0)]) d_Model_drawn_118 (Nat.le_of_ble_eq_true rfl) rfl <|
    am_iload d_Model_drawn_120 rfl <|
    am_aload_n d_Model_drawn_122 rfl (i := 0) rfl <|
    am_iload d_Model_drawn_123 rfl <|
    am_callV (vs := [.int y0]) (st := [.int x4]) (k := 0) (ci := 10) rfl d_Model_drawn_125 rfl rfl w_1586 w_1588 w_56 w_94 w_1589 p_Model_isWater (Nat.le_of_ble_eq_true rfl) (Nat.le_of_ble_eq_true rfl) rfl k
theorem b_Model_drawn_128 {d : Nat} {x1 : Int32} {x2 : Int32} {x3 : Int32} {x4 : Int32} {x5 : Int32} {x6 : Int32} {x7 : Int32} {x8 : Int32} {x9 : Int32} {y1 : Bool} {y0 : Int32} {h : am_H} {Q : am_Q} (kt : (am_b y1) = 0 → am_W (X_Model_drawn d) 135 [some (.ref 0), some (.int x1), some (.int x2), some (.int x3), some (.int x4), some (.int x5), some (.int x6), some (.int x7), some (.int x8), some (.int x9)] [.int y0] h Q) (kf : ¬ (am_b y1) = 0 → am_W (X_Model_drawn d) 131 [some (.ref 0), some (.int x1), some (.int x2), some (.int x3), some (.int x4), some (.int x5), some (.int x6), some (.int x7), some (.int x8), some (.int x9)] [.int y0] h Q) : am_W (X_Model_drawn d) 128 [some (.ref 0), some (.int x1), some (.int x2), some (.int x3), some (.int x4), some (.int x5), some (.int x6), some (.int x7), some (.int x8), some (.int x9)] [.int (am_b y1), .int y0] h Q :=
  am_if_eq (tgt := 135) d_Model_drawn_128 (by decide) kt kf
theorem b_Model_drawn_131 {d : Nat} {x1 : Int32} {x2 : Int32} {x3 : Int32} {x4 : Int32} {x5 : Int32} {x6 : Int32} {x7 : Int32} {x8 : Int32} {x9 : Int32} {y0 : Int32} {h : am_H} {Q : am_Q} (k : am_W (X_Model_drawn d) 136 [some (.ref 0), some (.int x1), some (.int x2), some (.int x3), some (.int x4), some (.int x5), some (.int x6), some (.int x7), some (.int x8), some (.int x9)] [.int 2, .int y0] h Q) : am_W (X_Model_drawn d) 131 [some (.ref 0), some (.int x1), some (.int x2), some (.int x3), some (.int x4), some (.int x5), some (.int x6), some (.int x7), some (.int x8), some (.int x9)] [.int y0] h Q :=
  am_iconst (v := 2) d_Model_drawn_131 (by decide) <|
    am_goto (tgt := 136) d_Model_drawn_132 (by decide) k
theorem b_Model_drawn_135 {d : Nat} {x1 : Int32} {x2 : Int32} {x3 : Int32} {x4 : Int32} {x5 : Int32} {x6 : Int32} {x7 : Int32} {x8 : Int32} {x9 : Int32} {y0 : Int32} {h : am_H} {Q : am_Q} (k : am_W (X_Model_drawn d) 136 [some (.ref 0), some (.int x1), some (.int x2), some (.int x3), some (.int x4), some (.int x5), some (.int x6), some (.int x7), some (.int x8), some (.int x9)] [.int 1, .int y0] h Q) : am_W (X_Model_drawn d) 135 [some (.ref 0), some (.int x1), some (.int x2), some (.int x3), some (.int x4), some (.int x5), some (.int x6), some (.int x7), some (.int x8), some (.int x9)] [.int y0] h Q :=
  am_iconst (v := 1) d_Model_drawn_135 (by decide) <|
    k
theorem b_Model_drawn_136 {d : Nat} {x1 : Int32} {x2 : Int32} {x3 : Int32} {x4 : Int32} {x5 : Int32} {x6 : Int32} {x7 : Int32} {x8 : Int32} {x9 : Int32} {y1 : Int32} {y0 : Int32} {h : am_H} {Q : am_Q} (k : m_Model_isWater d [.ref 0, .int x9] h (fun r hh => am_W (X_Model_drawn (d + 1)) 147 [some (.ref 0), some (.int x1), some (.int x2), some (.int x3), some (.int (y0 + y1)), some (.int x5), some (.int x6), some (.int x7), some (.int x8), some (.int x9)] (r.toList ++ [.int x5]) hh Q)) : am_W (X_Model_drawn (d + 1)) 136 [some (.ref 0), some (.int x1), some (.int x2), some (.int x3), some (.int x4), some (.int x5), some (.int x6), some (.int x7), some (.int x8), some (.int x9)] [.int y1, .int y0] h Q :=
  am_iadd d_Model_drawn_136 <|
    am_istore (ls' := [some (.ref 0), some (.int x1), some (.int x2), some (.int x3), some (.int (y0 + y1)), some (.int x5), some (.int x6), some (.int x7), some (.int x8), some (.int x9)]) d_Model_drawn_137 (Nat.le_of_ble_eq_true rfl) rfl <|
    am_iload d_Model_drawn_139 rfl <|
    am_aload_n d_Model_drawn_141 rfl (i := 0) rfl <|
    am_iload d_Model_drawn_142 rfl <|
    am_callV (vs := [.int x9]) (st := [.int x5]) (k := 0) (ci := 10) rfl d_Model_drawn_144 rfl rfl w_1586 w_1588 w_56 w_94 w_1589 p_Model_isWater (Nat.le_of_ble_eq_true rfl) (Nat.le_of_ble_eq_true rfl) rfl k
theorem b_Model_drawn_147 {d : Nat} {x1 : Int32} {x2 : Int32} {x3 : Int32} {x4 : Int32} {x5 : Int32} {x6 : Int32} {x7 : Int32} {x8 : Int32} {x9 : Int32} {y1 : Bool} {y0 : Int32} {h : am_H} {Q : am_Q} (kt : (am_b y1) = 0 → am_W (X_Model_drawn d) 154 [some (.ref 0), some (.int x1), some (.int x2), some (.int x3), some (.int x4), some (.int x5), some (.int x6), some (.int x7), some (.int x8), some (.int x9)] [.int y0] h Q) (kf : ¬ (am_b y1) = 0 → am_W (X_Model_drawn d) 150 [some (.ref 0), some (.int x1), some (.int x2), some (.int x3), some (.int x4), some (.int x5), some (.int x6), some (.int x7), some (.int x8), some (.int x9)] [.int y0] h Q) : am_W (X_Model_drawn d) 147 [some (.ref 0), some (.int x1), some (.int x2), some (.int x3), some (.int x4), some (.int x5), some (.int x6), some (.int x7), some (.int x8), some (.int x9)] [.int (am_b y1), .int y0] h Q :=
  am_if_eq (tgt := 154) d_Model_drawn_147 (by decide) kt kf
theorem b_Model_drawn_150 {d : Nat} {x1 : Int32} {x2 : Int32} {x3 : Int32} {x4 : Int32} {x5 : Int32} {x6 : Int32} {x7 : Int32} {x8 : Int32} {x9 : Int32} {y0 : Int32} {h : am_H} {Q : am_Q} (k : am_W (X_Model_drawn d) 155 [some (.ref 0), some (.int x1), some (.int x2), some (.int x3), some (.int x4), some (.int x5), some (.int x6), some (.int x7), some (.int x8), some (.int x9)] [.int 1, .int y0] h Q) : am_W (X_Model_drawn d) 150 [some (.ref 0), some (.int x1), some (.int x2), some (.int x3), some (.int x4), some (.int x5), some (.int x6), some (.int x7), some (.int x8), some (.int x9)] [.int y0] h Q :=
  am_iconst (v := 1) d_Model_drawn_150 (by decide) <|
    am_goto (tgt := 155) d_Model_drawn_151 (by decide) k
theorem b_Model_drawn_154 {d : Nat} {x1 : Int32} {x2 : Int32} {x3 : Int32} {x4 : Int32} {x5 : Int32} {x6 : Int32} {x7 : Int32} {x8 : Int32} {x9 : Int32} {y0 : Int32} {h : am_H} {Q : am_Q} (k : am_W (X_Model_drawn d) 155 [some (.ref 0), some (.int x1), some (.int x2), some (.int x3), some (.int x4), some (.int x5), some (.int x6), some (.int x7), some (.int x8), some (.int x9)] [.int 0, .int y0] h Q) : am_W (X_Model_drawn d) 154 [some (.ref 0), some (.int x1), some (.int x2), some (.int x3), some (.int x4), some (.int x5), some (.int x6), some (.int x7), some (.int x8), some (.int x9)] [.int y0] h Q :=
  am_iconst (v := 0) d_Model_drawn_154 (by decide) <|
    k
theorem b_Model_drawn_155 {d : Nat} {x1 : Int32} {x2 : Int32} {x3 : Int32} {x4 : Int32} {x5 : Int32} {x6 : Int32} {x7 : Int32} {x8 : Int32} {x9 : Int32} {y1 : Int32} {y0 : Int32} {h : am_H} {Q : am_Q} (k : m_Model_isWater d [.ref 0, .int x9] h (fun r hh => am_W (X_Model_drawn (d + 1)) 164 [some (.ref 0), some (.int x1), some (.int x2), some (.int x3), some (.int x4), some (.int (y0 + y1)), some (.int x6), some (.int x7), some (.int x8), some (.int x9)] (r.toList ++ []) hh Q)) : am_W (X_Model_drawn (d + 1)) 155 [some (.ref 0), some (.int x1), some (.int x2), some (.int x3), some (.int x4), some (.int x5), some (.int x6), some (.int x7), some (.int x8), some (.int x9)] [.int y1, .int y0] h Q :=
  am_iadd d_Model_drawn_155 <|
    am_istore (ls' := [some (.ref 0), some (.int x1), some (.int x2), some (.int x3), some (.int x4), some (.int (y0 + y1)), some (.int x6), some (.int x7), some (.int x8), some (.int x9)]) d_Model_drawn_156 (Nat.le_of_ble_eq_true rfl) rfl <|
    am_aload_n d_Model_drawn_158 rfl (i := 0) rfl <|
    am_iload d_Model_drawn_159 rfl <|
    am_callV (vs := [.int x9]) (st := []) (k := 0) (ci := 10) rfl d_Model_drawn_161 rfl rfl w_1586 w_1588 w_56 w_94 w_1589 p_Model_isWater (Nat.le_of_ble_eq_true rfl) (Nat.le_of_ble_eq_true rfl) rfl k
theorem b_Model_drawn_164 {d : Nat} {x1 : Int32} {x2 : Int32} {x3 : Int32} {x4 : Int32} {x5 : Int32} {x6 : Int32} {x7 : Int32} {x8 : Int32} {x9 : Int32} {y0 : Bool} {h : am_H} {Q : am_Q} (kt : (am_b y0) = 0 → am_W (X_Model_drawn d) 172 [some (.ref 0), some (.int x1), some (.int x2), some (.int x3), some (.int x4), some (.int x5), some (.int x6), some (.int x7), some (.int x8), some (.int x9)] [] h Q) (kf : ¬ (am_b y0) = 0 → am_W (X_Model_drawn d) 167 [some (.ref 0), some (.int x1), some (.int x2), some (.int x3), some (.int x4), some (.int x5), some (.int x6), some (.int x7), some (.int x8), some (.int x9)] [] h Q) : am_W (X_Model_drawn d) 164 [some (.ref 0), some (.int x1), some (.int x2), some (.int x3), some (.int x4), some (.int x5), some (.int x6), some (.int x7), some (.int x8), some (.int x9)] [.int (am_b y0)] h Q :=
  am_if_eq (tgt := 172) d_Model_drawn_164 (by decide) kt kf
theorem b_Model_drawn_167 {d : Nat} {x1 : Int32} {x2 : Int32} {x3 : Int32} {x4 : Int32} {x5 : Int32} {x6 : Int32} {x7 : Int32} {x8 : Int32} {x9 : Int32} {h : am_H} {Q : am_Q} (k : am_W (X_Model_drawn d) 174 [some (.ref 0), some (.int x1), some (.int x2), some (.int x3), some (.int x4), some (.int x5), some (.int x6), some (.int x7), some (.int x8), some (.int x9)] [.int x7] h Q) : am_W (X_Model_drawn d) 167 [some (.ref 0), some (.int x1), some (.int x2), some (.int x3), some (.int x4), some (.int x5), some (.int x6), some (.int x7), some (.int x8), some (.int x9)] [] h Q :=
  am_iload d_Model_drawn_167 rfl <|
    am_goto (tgt := 174) d_Model_drawn_169 (by decide) k
theorem b_Model_drawn_172 {d : Nat} {x1 : Int32} {x2 : Int32} {x3 : Int32} {x4 : Int32} {x5 : Int32} {x6 : Int32} {x7 : Int32} {x8 : Int32} {x9 : Int32} {h : am_H} {Q : am_Q} (k : am_W (X_Model_drawn d) 174 [some (.ref 0), some (.int x1), some (.int x2), some (.int x3), some (.int x4), some (.int x5), some (.int x6), some (.int x7), some (.int x8), some (.int x9)] [.int x9] h Q) : am_W (X_Model_drawn d) 172 [some (.ref 0), some (.int x1), some (.int x2), some (.int x3), some (.int x4), some (.int x5), some (.int x6), some (.int x7), some (.int x8), some (.int x9)] [] h Q :=
  am_iload d_Model_drawn_172 rfl <|
    k
theorem b_Model_drawn_174 {d : Nat} {x1 : Int32} {x2 : Int32} {x3 : Int32} {x4 : Int32} {x5 : Int32} {x6 : Int32} {x7 : Int32} {x8 : Int32} {x9 : Int32} {y0 : Int32} {h : am_H} {Q : am_Q} (k : am_W (X_Model_drawn d) 86 [some (.ref 0), some (.int x1), some (.int x2), some (.int x3), some (.int x4), some (.int x5), some (.int x6), some (.int y0), some (.int (x8 + 1)), some (.int x9)] [] h Q) : am_W (X_Model_drawn d) 174 [some (.ref 0), some (.int x1), some (.int x2), some (.int x3), some (.int x4), some (.int x5), some (.int x6), some (.int x7), some (.int x8), some (.int x9)] [.int y0] h Q :=
  am_istore (ls' := [some (.ref 0), some (.int x1), some (.int x2), some (.int x3), some (.int x4), some (.int x5), some (.int x6), some (.int y0), some (.int x8), some (.int x9)]) d_Model_drawn_174 (Nat.le_of_ble_eq_true rfl) rfl <|
    am_iinc (v := (x8 + 1)) (ls' := [some (.ref 0), some (.int x1), some (.int x2), some (.int x3), some (.int x4), some (.int x5), some (.int x6), some (.int y0), some (.int (x8 + 1)), some (.int x9)]) d_Model_drawn_176 rfl rfl (Nat.le_of_ble_eq_true rfl) rfl <|
    am_goto (tgt := 86) d_Model_drawn_179 (by decide) k
theorem b_Model_drawn_182 {d : Nat} {x1 : Int32} {x2 : Int32} {x3 : Int32} {x4 : Int32} {x5 : Int32} {x6 : Int32} {x7 : Int32} {x8 : Int32} {h : am_H} {Q : am_Q} (k : m_Model_isGreen d [.ref 0, .int x7] h (fun r hh => am_W (X_Model_drawn (d + 1)) 190 [some (.ref 0), some (.int x1), some (.int x2), some (.int x3), some (.int x4), some (.int x5), some (.int x6), some (.int x7), some (.int x8), none] (r.toList ++ [.int x4]) hh Q)) : am_W (X_Model_drawn (d + 1)) 182 [some (.ref 0), some (.int x1), some (.int x2), some (.int x3), some (.int x4), some (.int x5), some (.int x6), some (.int x7), some (.int x8), none] [] h Q :=
  am_iload d_Model_drawn_182 rfl <|
    am_aload_n d_Model_drawn_184 rfl (i := 0) rfl <|
    am_iload d_Model_drawn_185 rfl <|
    am_callV (vs := [.int x7]) (st := [.int x4]) (k := 0) (ci := 10) rfl d_Model_drawn_187 rfl rfl w_1550 w_1552 w_49 w_94 w_1553 p_Model_isGreen (Nat.le_of_ble_eq_true rfl) (Nat.le_of_ble_eq_true rfl) rfl k
theorem b_Model_drawn_190 {d : Nat} {x1 : Int32} {x2 : Int32} {x3 : Int32} {x4 : Int32} {x5 : Int32} {x6 : Int32} {x7 : Int32} {x8 : Int32} {y1 : Bool} {y0 : Int32} {h : am_H} {Q : am_Q} (kt : (am_b y1) = 0 → am_W (X_Model_drawn d) 202 [some (.ref 0), some (.int x1), some (.int x2), some (.int x3), some (.int x4), some (.int x5), some (.int x6), some (.int x7), some (.int x8), none] [.int y0] h Q) (kf : ¬ (am_b y1) = 0 → am_W (X_Model_drawn d) 193 [some (.ref 0), some (.int x1), some (.int x2), some (.int x3), some (.int x4), some (.int x5), some (.int x6), some (.int x7), some (.int x8), none] [.int y0] h Q) : am_W (X_Model_drawn d) 190 [some (.ref 0), some (.int x1), some (.int x2), some (.int x3), some (.int x4), some (.int x5), some (.int x6), some (.int x7), some (.int x8), none] [.int (am_b y1), .int y0] h Q :=
  am_if_eq (tgt := 202) d_Model_drawn_190 (by decide) kt kf
theorem b_Model_drawn_193 {d : Nat} {x1 : Int32} {x2 : Int32} {x3 : Int32} {x4 : Int32} {x5 : Int32} {x6 : Int32} {x7 : Int32} {x8 : Int32} {y0 : Int32} {h : am_H} {Q : am_Q} (k : m_Model_drawnPutts d [.ref 0, .int x7] h (fun r hh => am_W (X_Model_drawn (d + 1)) 199 [some (.ref 0), some (.int x1), some (.int x2), some (.int x3), some (.int x4), some (.int x5), some (.int x6), some (.int x7), some (.int x8), none] (r.toList ++ [.int y0]) hh Q)) : am_W (X_Model_drawn (d + 1)) 193 [some (.ref 0), some (.int x1), some (.int x2), some (.int x3), some (.int x4), some (.int x5), some (.int x6), some (.int x7), some (.int x8), none] [.int y0] h Q :=
  am_aload_n d_Model_drawn_193 rfl (i := 0) rfl <|
    am_iload d_Model_drawn_194 rfl <|
    am_callV (vs := [.int x7]) (st := [.int y0]) (k := 0) (ci := 10) rfl d_Model_drawn_196 rfl rfl w_1709 w_1711 w_72 w_94 w_1712 p_Model_drawnPutts (Nat.le_of_ble_eq_true rfl) (Nat.le_of_ble_eq_true rfl) rfl k
theorem b_Model_drawn_199 {d : Nat} {x1 : Int32} {x2 : Int32} {x3 : Int32} {x4 : Int32} {x5 : Int32} {x6 : Int32} {x7 : Int32} {x8 : Int32} {y1 : Int32} {y0 : Int32} {h : am_H} {Q : am_Q} (k : am_W (X_Model_drawn d) 203 [some (.ref 0), some (.int x1), some (.int x2), some (.int x3), some (.int x4), some (.int x5), some (.int x6), some (.int x7), some (.int x8), none] [.int y1, .int y0] h Q) : am_W (X_Model_drawn d) 199 [some (.ref 0), some (.int x1), some (.int x2), some (.int x3), some (.int x4), some (.int x5), some (.int x6), some (.int x7), some (.int x8), none] [.int y1, .int y0] h Q :=
  am_goto (tgt := 203) d_Model_drawn_199 (by decide) k
theorem b_Model_drawn_202 {d : Nat} {x1 : Int32} {x2 : Int32} {x3 : Int32} {x4 : Int32} {x5 : Int32} {x6 : Int32} {x7 : Int32} {x8 : Int32} {y0 : Int32} {h : am_H} {Q : am_Q} (k : am_W (X_Model_drawn d) 203 [some (.ref 0), some (.int x1), some (.int x2), some (.int x3), some (.int x4), some (.int x5), some (.int x6), some (.int x7), some (.int x8), none] [.int 5, .int y0] h Q) : am_W (X_Model_drawn d) 202 [some (.ref 0), some (.int x1), some (.int x2), some (.int x3), some (.int x4), some (.int x5), some (.int x6), some (.int x7), some (.int x8), none] [.int y0] h Q :=
  am_iconst (v := 5) d_Model_drawn_202 (by decide) <|
    k
theorem b_Model_drawn_203 {d : Nat} {x1 : Int32} {x2 : Int32} {x3 : Int32} {x4 : Int32} {x5 : Int32} {x6 : Int32} {x7 : Int32} {x8 : Int32} {y1 : Int32} {y0 : Int32} {h : am_H} {Q : am_Q} (k : am_W (X_Model_drawn d) 71 [some (.ref 0), some (.int x1), some (.int x2), some (.int x3), some (.int (y0 + y1)), some (.int x5), some (.int (x6 + 1)), some (.int x7), some (.int x8), none] [] h Q) : am_W (X_Model_drawn d) 203 [some (.ref 0), some (.int x1), some (.int x2), some (.int x3), some (.int x4), some (.int x5), some (.int x6), some (.int x7), some (.int x8), none] [.int y1, .int y0] h Q :=
  am_iadd d_Model_drawn_203 <|
    am_istore (ls' := [some (.ref 0), some (.int x1), some (.int x2), some (.int x3), some (.int (y0 + y1)), some (.int x5), some (.int x6), some (.int x7), some (.int x8), none]) d_Model_drawn_204 (Nat.le_of_ble_eq_true rfl) rfl <|
    am_iinc (v := (x6 + 1)) (ls' := [some (.ref 0), some (.int x1), some (.int x2), some (.int x3), some (.int (y0 + y1)), some (.int x5), some (.int (x6 + 1)), some (.int x7), some (.int x8), none]) d_Model_drawn_206 rfl rfl (Nat.le_of_ble_eq_true rfl) rfl <|
    am_goto (tgt := 71) d_Model_drawn_209 (by decide) k
theorem b_Model_drawn_212 {d : Nat} {x1 : Int32} {x2 : Int32} {x3 : Int32} {x4 : Int32} {x5 : Int32} {x6 : Int32} {h : am_H} {Q : am_Q} (kt : ¬ x3 = 0 → am_W (X_Model_drawn d) 221 [some (.ref 0), some (.int x1), some (.int x2), some (.int x3), some (.int x4), some (.int x5), some (.int x6), none, none, none] [] h Q) (kf : x3 = 0 → am_W (X_Model_drawn d) 216 [some (.ref 0), some (.int x1), some (.int x2), some (.int x3), some (.int x4), some (.int x5), some (.int x6), none, none, none] [] h Q) : am_W (X_Model_drawn d) 212 [some (.ref 0), some (.int x1), some (.int x2), some (.int x3), some (.int x4), some (.int x5), some (.int x6), none, none, none] [] h Q :=
  am_iload_n d_Model_drawn_212 rfl (i := 3) rfl <|
    am_if_ne (tgt := 221) d_Model_drawn_213 (by decide) kt kf
theorem b_Model_drawn_216 {d : Nat} {x1 : Int32} {x2 : Int32} {x3 : Int32} {x4 : Int32} {x5 : Int32} {x6 : Int32} {h : am_H} {Q : am_Q} (q : Q (some (.int x4)) h) : am_W (X_Model_drawn d) 216 [some (.ref 0), some (.int x1), some (.int x2), some (.int x3), some (.int x4), some (.int x5), some (.int x6), none, none, none] [] h Q :=
  am_iload d_Model_drawn_216 rfl <|
    am_goto (tgt := 223) d_Model_drawn_218 (by decide) <|
    am_iret rfl d_Model_drawn_223 q
theorem b_Model_drawn_221 {d : Nat} {x1 : Int32} {x2 : Int32} {x3 : Int32} {x4 : Int32} {x5 : Int32} {x6 : Int32} {h : am_H} {Q : am_Q} (q : Q (some (.int x5)) h) : am_W (X_Model_drawn d) 221 [some (.ref 0), some (.int x1), some (.int x2), some (.int x3), some (.int x4), some (.int x5), some (.int x6), none, none, none] [] h Q :=
  am_iload d_Model_drawn_221 rfl <|
    am_iret rfl d_Model_drawn_223 q
theorem t_Model_drawn_37 {d : Nat} {x1 : Int32} {x2 : Int32} {x3 : Int32} {h : am_H} {Q : am_Q} {res : Int32 × am_H} (e : f_Model_drawn_37 h = some res) (q : Q (some (.int res.1)) res.2) : am_W (X_Model_drawn (d + 70)) 37 [some (.ref 0), some (.int x1), some (.int x2), some (.int x3), none, none, none, none, none, none] [] h Q :=
  b_Model_drawn_37 (d := (d + 70)) (q := (am_rIpi (v := (-1)) e q))
theorem t_Model_drawn_221 {d : Nat} {x1 : Int32} {x2 : Int32} {x3 : Int32} {x4 : Int32} {x5 : Int32} {x6 : Int32} {h : am_H} {Q : am_Q} {res : Int32 × am_H} (e : f_Model_drawn_221 h x5 = some res) (q : Q (some (.int res.1)) res.2) : am_W (X_Model_drawn (d + 70)) 221 [some (.ref 0), some (.int x1), some (.int x2), some (.int x3), some (.int x4), some (.int x5), some (.int x6), none, none, none] [] h Q :=
  b_Model_drawn_221 (d := (d + 70)) (q := (am_rIpi (v := x5) e q))
theorem t_Model_drawn_216 {d : Nat} {x1 : Int32} {x2 : Int32} {x3 : Int32} {x4 : Int32} {x5 : Int32} {x6 : Int32} {h : am_H} {Q : am_Q} {res : Int32 × am_H} (e : f_Model_drawn_216 h x4 = some res) (q : Q (some (.int res.1)) res.2) : am_W (X_Model_drawn (d + 70)) 216 [some (.ref 0), some (.int x1), some (.int x2), some (.int x3), some (.int x4), some (.int x5), some (.int x6), none, none, none] [] h Q :=
  b_Model_drawn_216 (d := (d + 70)) (q := (am_rIpi (v := x4) e q))
theorem t_Model_drawn_212 {d : Nat} {x1 : Int32} {x2 : Int32} {x3 : Int32} {x4 : Int32} {x5 : Int32} {x6 : Int32} {h : am_H} {Q : am_Q} {res : Int32 × am_H} (e : f_Model_drawn_212 h x3 x4 x5 = some res) (q : Q (some (.int res.1)) res.2) : am_W (X_Model_drawn (d + 70)) 212 [some (.ref 0), some (.int x1), some (.int x2), some (.int x3), some (.int x4), some (.int x5), some (.int x6), none, none, none] [] h Q :=
  b_Model_drawn_212 (d := (d + 70)) (kt := fun c => (t_Model_drawn_221 (am_ife e c) q)) (kf := fun c => (t_Model_drawn_216 (am_ift e c) q))
theorem t_Model_drawn_203 {d : Nat} {k71 : am_H → Int32 → Int32 → Int32 → Int32 → Int32 → Option (Int32 × am_H)} {x1 : Int32} {x2 : Int32} {x3 : Int32} {x4 : Int32} {x5 : Int32} {x6 : Int32} {x7 : Int32} {x8 : Int32} {y1 : Int32} {y0 : Int32} {h : am_H} {Q : am_Q} {res : Int32 × am_H} (hk71 : ∀ (x1 : Int32) (x2 : Int32) (x3 : Int32) (x4 : Int32) (x5 : Int32) (x6 : Int32) (h : am_H), k71 h x2 x3 x4 x5 x6 = some res → am_W (X_Model_drawn (d + 70)) 71 [some (.ref 0), some (.int x1), some (.int x2), some (.int x3), some (.int x4), some (.int x5), some (.int x6), none, none, none] [] h Q) (e : f_Model_drawn_203 k71 h x2 x3 x5 x6 y1 y0 = some res) (q : Q (some (.int res.1)) res.2) : am_W (X_Model_drawn (d + 70)) 203 [some (.ref 0), some (.int x1), some (.int x2), some (.int x3), some (.int x4), some (.int x5), some (.int x6), some (.int x7), some (.int x8), none] [.int y1, .int y0] h Q :=
  b_Model_drawn_203 (d := (d + 70)) (k := (am_wk2 (hk71 _ _ _ _ _ _ _ e) ⟨rfl, ⟨rfl, ⟨rfl, ⟨rfl, ⟨rfl, ⟨rfl, ⟨rfl, trivial⟩⟩⟩⟩⟩⟩⟩))
theorem t_Model_drawn_202 {d : Nat} {k71 : am_H → Int32 → Int32 → Int32 → Int32 → Int32 → Option (Int32 × am_H)} {x1 : Int32} {x2 : Int32} {x3 : Int32} {x4 : Int32} {x5 : Int32} {x6 : Int32} {x7 : Int32} {x8 : Int32} {y0 : Int32} {h : am_H} {Q : am_Q} {res : Int32 × am_H} (hk71 : ∀ (x1 : Int32) (x2 : Int32) (x3 : Int32) (x4 : Int32) (x5 : Int32) (x6 : Int32) (h : am_H), k71 h x2 x3 x4 x5 x6 = some res → am_W (X_Model_drawn (d + 70)) 71 [some (.ref 0), some (.int x1), some (.int x2), some (.int x3), some (.int x4), some (.int x5), some (.int x6), none, none, none] [] h Q) (e : f_Model_drawn_202 k71 h x2 x3 x5 x6 y0 = some res) (q : Q (some (.int res.1)) res.2) : am_W (X_Model_drawn (d + 70)) 202 [some (.ref 0), some (.int x1), some (.int x2), some (.int x3), some (.int x4), some (.int x5), some (.int x6), some (.int x7), some (.int x8), none] [.int y0] h Q :=
  b_Model_drawn_202 (d := (d + 70)) (k := (t_Model_drawn_203 hk71 e q))
theorem t_Model_drawn_199 {d : Nat} {k71 : am_H → Int32 → Int32 → Int32 → Int32 → Int32 → Option (Int32 × am_H)} {x1 : Int32} {x2 : Int32} {x3 : Int32} {x4 : Int32} {x5 : Int32} {x6 : Int32} {x7 : Int32} {x8 : Int32} {y1 : Int32} {y0 : Int32} {h : am_H} {Q : am_Q} {res : Int32 × am_H} (hk71 : ∀ (x1 : Int32) (x2 : Int32) (x3 : Int32) (x4 : Int32) (x5 : Int32) (x6 : Int32) (h : am_H), k71 h x2 x3 x4 x5 x6 = some res → am_W (X_Model_drawn (d + 70)) 71 [some (.ref 0), some (.int x1), some (.int x2), some (.int x3), some (.int x4), some (.int x5), some (.int x6), none, none, none] [] h Q) (e : f_Model_drawn_199 k71 h x2 x3 x5 x6 y1 y0 = some res) (q : Q (some (.int res.1)) res.2) : am_W (X_Model_drawn (d + 70)) 199 [some (.ref 0), some (.int x1), some (.int x2), some (.int x3), some (.int x4), some (.int x5), some (.int x6), some (.int x7), some (.int x8), none] [.int y1, .int y0] h Q :=
  b_Model_drawn_199 (d := (d + 70)) (k := (t_Model_drawn_203 hk71 e q))
theorem t_Model_drawn_193 {d : Nat} {k71 : am_H → Int32 → Int32 → Int32 → Int32 → Int32 → Option (Int32 × am_H)} {x1 : Int32} {x2 : Int32} {x3 : Int32} {x4 : Int32} {x5 : Int32} {x6 : Int32} {x7 : Int32} {x8 : Int32} {y0 : Int32} {h : am_H} {Q : am_Q} {res : Int32 × am_H} (hk71 : ∀ (x1 : Int32) (x2 : Int32) (x3 : Int32) (x4 : Int32) (x5 : Int32) (x6 : Int32) (h : am_H), k71 h x2 x3 x4 x5 x6 = some res → am_W (X_Model_drawn (d + 70)) 71 [some (.ref 0), some (.int x1), some (.int x2), some (.int x3), some (.int x4), some (.int x5), some (.int x6), none, none, none] [] h Q) (e : f_Model_drawn_193 k71 h x2 x3 x5 x6 x7 y0 = some res) (q : Q (some (.int res.1)) res.2) : am_W (X_Model_drawn (d + 70)) 193 [some (.ref 0), some (.int x1), some (.int x2), some (.int x3), some (.int x4), some (.int x5), some (.int x6), some (.int x7), some (.int x8), none] [.int y0] h Q :=
  (am_bd e).elim fun p hp => b_Model_drawn_193 (d := (d + 69)) (k := c_Model_drawnPutts (d := d + 68) hp.1 (t_Model_drawn_199 hk71 hp.2 q))
theorem t_Model_drawn_190 {d : Nat} {k71 : am_H → Int32 → Int32 → Int32 → Int32 → Int32 → Option (Int32 × am_H)} {x1 : Int32} {x2 : Int32} {x3 : Int32} {x4 : Int32} {x5 : Int32} {x6 : Int32} {x7 : Int32} {x8 : Int32} {y1 : Bool} {y0 : Int32} {h : am_H} {Q : am_Q} {res : Int32 × am_H} (hk71 : ∀ (x1 : Int32) (x2 : Int32) (x3 : Int32) (x4 : Int32) (x5 : Int32) (x6 : Int32) (h : am_H), k71 h x2 x3 x4 x5 x6 = some res → am_W (X_Model_drawn (d + 70)) 71 [some (.ref 0), some (.int x1), some (.int x2), some (.int x3), some (.int x4), some (.int x5), some (.int x6), none, none, none] [] h Q) (e : f_Model_drawn_190 k71 h x2 x3 x5 x6 x7 y1 y0 = some res) (q : Q (some (.int res.1)) res.2) : am_W (X_Model_drawn (d + 70)) 190 [some (.ref 0), some (.int x1), some (.int x2), some (.int x3), some (.int x4), some (.int x5), some (.int x6), some (.int x7), some (.int x8), none] [.int (am_b y1), .int y0] h Q :=
  b_Model_drawn_190 (d := (d + 70)) (kt := fun c => (t_Model_drawn_202 hk71 (am_iff e (am_bz c)) q)) (kf := fun c => (t_Model_drawn_193 hk71 (am_ift e (am_bn c)) q))
theorem t_Model_drawn_182 {d : Nat} {k71 : am_H → Int32 → Int32 → Int32 → Int32 → Int32 → Option (Int32 × am_H)} {x1 : Int32} {x2 : Int32} {x3 : Int32} {x4 : Int32} {x5 : Int32} {x6 : Int32} {x7 : Int32} {x8 : Int32} {h : am_H} {Q : am_Q} {res : Int32 × am_H} (hk71 : ∀ (x1 : Int32) (x2 : Int32) (x3 : Int32) (x4 : Int32) (x5 : Int32) (x6 : Int32) (h : am_H), k71 h x2 x3 x4 x5 x6 = some res → am_W (X_Model_drawn (d + 70)) 71 [some (.ref 0), some (.int x1), some (.int x2), some (.int x3), some (.int x4), some (.int x5), some (.int x6), none, none, none] [] h Q) (e : f_Model_drawn_182 k71 h x2 x3 x4 x5 x6 x7 = some res) (q : Q (some (.int res.1)) res.2) : am_W (X_Model_drawn (d + 70)) 182 [some (.ref 0), some (.int x1), some (.int x2), some (.int x3), some (.int x4), some (.int x5), some (.int x6), some (.int x7), some (.int x8), none] [] h Q :=
  (am_bd e).elim fun p hp => b_Model_drawn_182 (d := (d + 69)) (k := c_Model_isGreen (d := d + 69) hp.1 (t_Model_drawn_190 hk71 hp.2 q))
theorem t_Model_drawn_174 {d : Nat} {k71 : am_H → Int32 → Int32 → Int32 → Int32 → Int32 → Option (Int32 × am_H)} {k86 : am_H → Int32 → Int32 → Int32 → Int32 → Int32 → Int32 → Int32 → Option (Int32 × am_H)} {x1 : Int32} {x2 : Int32} {x3 : Int32} {x4 : Int32} {x5 : Int32} {x6 : Int32} {x7 : Int32} {x8 : Int32} {x9 : Int32} {y0 : Int32} {h : am_H} {Q : am_Q} {res : Int32 × am_H} (hk71 : ∀ (x1 : Int32) (x2 : Int32) (x3 : Int32) (x4 : Int32) (x5 : Int32) (x6 : Int32) (h : am_H), k71 h x2 x3 x4 x5 x6 = some res → am_W (X_Model_drawn (d + 70)) 71 [some (.ref 0), some (.int x1), some (.int x2), some (.int x3), some (.int x4), some (.int x5), some (.int x6), none, none, none] [] h Q) (hk86 : ∀ (x1 : Int32) (x2 : Int32) (x3 : Int32) (x4 : Int32) (x5 : Int32) (x6 : Int32) (x7 : Int32) (x8 : Int32) (h : am_H), k86 h x2 x3 x4 x5 x6 x7 x8 = some res → am_W (X_Model_drawn (d + 70)) 86 [some (.ref 0), some (.int x1), some (.int x2), some (.int x3), some (.int x4), some (.int x5), some (.int x6), some (.int x7), some (.int x8), none] [] h Q) (e : f_Model_drawn_174 k71 k86 h x2 x3 x4 x5 x6 x8 y0 = some res) (q : Q (some (.int res.1)) res.2) : am_W (X_Model_drawn (d + 70)) 174 [some (.ref 0), some (.int x1), some (.int x2), some (.int x3), some (.int x4), some (.int x5), some (.int x6), some (.int x7), some (.int x8), some (.int x9)] [.int y0] h Q :=
  b_Model_drawn_174 (d := (d + 70)) (k := (am_wk2 (hk86 _ _ _ _ _ _ _ _ _ e) ⟨rfl, ⟨rfl, ⟨rfl, ⟨rfl, ⟨rfl, ⟨rfl, ⟨rfl, ⟨rfl, ⟨rfl, trivial⟩⟩⟩⟩⟩⟩⟩⟩⟩))
theorem t_Model_drawn_172 {d : Nat} {k71 : am_H → Int32 → Int32 → Int32 → Int32 → Int32 → Option (Int32 × am_H)} {k86 : am_H → Int32 → Int32 → Int32 → Int32 → Int32 → Int32 → Int32 → Option (Int32 × am_H)} {x1 : Int32} {x2 : Int32} {x3 : Int32} {x4 : Int32} {x5 : Int32} {x6 : Int32} {x7 : Int32} {x8 : Int32} {x9 : Int32} {h : am_H} {Q : am_Q} {res : Int32 × am_H} (hk71 : ∀ (x1 : Int32) (x2 : Int32) (x3 : Int32) (x4 : Int32) (x5 : Int32) (x6 : Int32) (h : am_H), k71 h x2 x3 x4 x5 x6 = some res → am_W (X_Model_drawn (d + 70)) 71 [some (.ref 0), some (.int x1), some (.int x2), some (.int x3), some (.int x4), some (.int x5), some (.int x6), none, none, none] [] h Q) (hk86 : ∀ (x1 : Int32) (x2 : Int32) (x3 : Int32) (x4 : Int32) (x5 : Int32) (x6 : Int32) (x7 : Int32) (x8 : Int32) (h : am_H), k86 h x2 x3 x4 x5 x6 x7 x8 = some res → am_W (X_Model_drawn (d + 70)) 86 [some (.ref 0), some (.int x1), some (.int x2), some (.int x3), some (.int x4), some (.int x5), some (.int x6), some (.int x7), some (.int x8), none] [] h Q) (e : f_Model_drawn_172 k71 k86 h x2 x3 x4 x5 x6 x8 x9 = some res) (q : Q (some (.int res.1)) res.2) : am_W (X_Model_drawn (d + 70)) 172 [some (.ref 0), some (.int x1), some (.int x2), some (.int x3), some (.int x4), some (.int x5), some (.int x6), some (.int x7), some (.int x8), some (.int x9)] [] h Q :=
  b_Model_drawn_172 (d := (d + 70)) (k := (t_Model_drawn_174 hk71 hk86 e q))
theorem t_Model_drawn_167 {d : Nat} {k71 : am_H → Int32 → Int32 → Int32 → Int32 → Int32 → Option (Int32 × am_H)} {k86 : am_H → Int32 → Int32 → Int32 → Int32 → Int32 → Int32 → Int32 → Option (Int32 × am_H)} {x1 : Int32} {x2 : Int32} {x3 : Int32} {x4 : Int32} {x5 : Int32} {x6 : Int32} {x7 : Int32} {x8 : Int32} {x9 : Int32} {h : am_H} {Q : am_Q} {res : Int32 × am_H} (hk71 : ∀ (x1 : Int32) (x2 : Int32) (x3 : Int32) (x4 : Int32) (x5 : Int32) (x6 : Int32) (h : am_H), k71 h x2 x3 x4 x5 x6 = some res → am_W (X_Model_drawn (d + 70)) 71 [some (.ref 0), some (.int x1), some (.int x2), some (.int x3), some (.int x4), some (.int x5), some (.int x6), none, none, none] [] h Q) (hk86 : ∀ (x1 : Int32) (x2 : Int32) (x3 : Int32) (x4 : Int32) (x5 : Int32) (x6 : Int32) (x7 : Int32) (x8 : Int32) (h : am_H), k86 h x2 x3 x4 x5 x6 x7 x8 = some res → am_W (X_Model_drawn (d + 70)) 86 [some (.ref 0), some (.int x1), some (.int x2), some (.int x3), some (.int x4), some (.int x5), some (.int x6), some (.int x7), some (.int x8), none] [] h Q) (e : f_Model_drawn_167 k71 k86 h x2 x3 x4 x5 x6 x7 x8 = some res) (q : Q (some (.int res.1)) res.2) : am_W (X_Model_drawn (d + 70)) 167 [some (.ref 0), some (.int x1), some (.int x2), some (.int x3), some (.int x4), some (.int x5), some (.int x6), some (.int x7), some (.int x8), some (.int x9)] [] h Q :=
  b_Model_drawn_167 (d := (d + 70)) (k := (t_Model_drawn_174 hk71 hk86 e q))
theorem t_Model_drawn_164 {d : Nat} {k71 : am_H → Int32 → Int32 → Int32 → Int32 → Int32 → Option (Int32 × am_H)} {k86 : am_H → Int32 → Int32 → Int32 → Int32 → Int32 → Int32 → Int32 → Option (Int32 × am_H)} {x1 : Int32} {x2 : Int32} {x3 : Int32} {x4 : Int32} {x5 : Int32} {x6 : Int32} {x7 : Int32} {x8 : Int32} {x9 : Int32} {y0 : Bool} {h : am_H} {Q : am_Q} {res : Int32 × am_H} (hk71 : ∀ (x1 : Int32) (x2 : Int32) (x3 : Int32) (x4 : Int32) (x5 : Int32) (x6 : Int32) (h : am_H), k71 h x2 x3 x4 x5 x6 = some res → am_W (X_Model_drawn (d + 70)) 71 [some (.ref 0), some (.int x1), some (.int x2), some (.int x3), some (.int x4), some (.int x5), some (.int x6), none, none, none] [] h Q) (hk86 : ∀ (x1 : Int32) (x2 : Int32) (x3 : Int32) (x4 : Int32) (x5 : Int32) (x6 : Int32) (x7 : Int32) (x8 : Int32) (h : am_H), k86 h x2 x3 x4 x5 x6 x7 x8 = some res → am_W (X_Model_drawn (d + 70)) 86 [some (.ref 0), some (.int x1), some (.int x2), some (.int x3), some (.int x4), some (.int x5), some (.int x6), some (.int x7), some (.int x8), none] [] h Q) (e : f_Model_drawn_164 k71 k86 h x2 x3 x4 x5 x6 x7 x8 x9 y0 = some res) (q : Q (some (.int res.1)) res.2) : am_W (X_Model_drawn (d + 70)) 164 [some (.ref 0), some (.int x1), some (.int x2), some (.int x3), some (.int x4), some (.int x5), some (.int x6), some (.int x7), some (.int x8), some (.int x9)] [.int (am_b y0)] h Q :=
  b_Model_drawn_164 (d := (d + 70)) (kt := fun c => (t_Model_drawn_172 hk71 hk86 (am_iff e (am_bz c)) q)) (kf := fun c => (t_Model_drawn_167 hk71 hk86 (am_ift e (am_bn c)) q))
theorem t_Model_drawn_155 {d : Nat} {k71 : am_H → Int32 → Int32 → Int32 → Int32 → Int32 → Option (Int32 × am_H)} {k86 : am_H → Int32 → Int32 → Int32 → Int32 → Int32 → Int32 → Int32 → Option (Int32 × am_H)} {x1 : Int32} {x2 : Int32} {x3 : Int32} {x4 : Int32} {x5 : Int32} {x6 : Int32} {x7 : Int32} {x8 : Int32} {x9 : Int32} {y1 : Int32} {y0 : Int32} {h : am_H} {Q : am_Q} {res : Int32 × am_H} (hk71 : ∀ (x1 : Int32) (x2 : Int32) (x3 : Int32) (x4 : Int32) (x5 : Int32) (x6 : Int32) (h : am_H), k71 h x2 x3 x4 x5 x6 = some res → am_W (X_Model_drawn (d + 70)) 71 [some (.ref 0), some (.int x1), some (.int x2), some (.int x3), some (.int x4), some (.int x5), some (.int x6), none, none, none] [] h Q) (hk86 : ∀ (x1 : Int32) (x2 : Int32) (x3 : Int32) (x4 : Int32) (x5 : Int32) (x6 : Int32) (x7 : Int32) (x8 : Int32) (h : am_H), k86 h x2 x3 x4 x5 x6 x7 x8 = some res → am_W (X_Model_drawn (d + 70)) 86 [some (.ref 0), some (.int x1), some (.int x2), some (.int x3), some (.int x4), some (.int x5), some (.int x6), some (.int x7), some (.int x8), none] [] h Q) (e : f_Model_drawn_155 k71 k86 h x2 x3 x4 x6 x7 x8 x9 y1 y0 = some res) (q : Q (some (.int res.1)) res.2) : am_W (X_Model_drawn (d + 70)) 155 [some (.ref 0), some (.int x1), some (.int x2), some (.int x3), some (.int x4), some (.int x5), some (.int x6), some (.int x7), some (.int x8), some (.int x9)] [.int y1, .int y0] h Q :=
  (am_bd e).elim fun p hp => b_Model_drawn_155 (d := (d + 69)) (k := c_Model_isWater (d := d + 68) hp.1 (t_Model_drawn_164 hk71 hk86 hp.2 q))
theorem t_Model_drawn_154 {d : Nat} {k71 : am_H → Int32 → Int32 → Int32 → Int32 → Int32 → Option (Int32 × am_H)} {k86 : am_H → Int32 → Int32 → Int32 → Int32 → Int32 → Int32 → Int32 → Option (Int32 × am_H)} {x1 : Int32} {x2 : Int32} {x3 : Int32} {x4 : Int32} {x5 : Int32} {x6 : Int32} {x7 : Int32} {x8 : Int32} {x9 : Int32} {y0 : Int32} {h : am_H} {Q : am_Q} {res : Int32 × am_H} (hk71 : ∀ (x1 : Int32) (x2 : Int32) (x3 : Int32) (x4 : Int32) (x5 : Int32) (x6 : Int32) (h : am_H), k71 h x2 x3 x4 x5 x6 = some res → am_W (X_Model_drawn (d + 70)) 71 [some (.ref 0), some (.int x1), some (.int x2), some (.int x3), some (.int x4), some (.int x5), some (.int x6), none, none, none] [] h Q) (hk86 : ∀ (x1 : Int32) (x2 : Int32) (x3 : Int32) (x4 : Int32) (x5 : Int32) (x6 : Int32) (x7 : Int32) (x8 : Int32) (h : am_H), k86 h x2 x3 x4 x5 x6 x7 x8 = some res → am_W (X_Model_drawn (d + 70)) 86 [some (.ref 0), some (.int x1), some (.int x2), some (.int x3), some (.int x4), some (.int x5), some (.int x6), some (.int x7), some (.int x8), none] [] h Q) (e : f_Model_drawn_154 k71 k86 h x2 x3 x4 x6 x7 x8 x9 y0 = some res) (q : Q (some (.int res.1)) res.2) : am_W (X_Model_drawn (d + 70)) 154 [some (.ref 0), some (.int x1), some (.int x2), some (.int x3), some (.int x4), some (.int x5), some (.int x6), some (.int x7), some (.int x8), some (.int x9)] [.int y0] h Q :=
  b_Model_drawn_154 (d := (d + 70)) (k := (t_Model_drawn_155 hk71 hk86 e q))
theorem t_Model_drawn_150 {d : Nat} {k71 : am_H → Int32 → Int32 → Int32 → Int32 → Int32 → Option (Int32 × am_H)} {k86 : am_H → Int32 → Int32 → Int32 → Int32 → Int32 → Int32 → Int32 → Option (Int32 × am_H)} {x1 : Int32} {x2 : Int32} {x3 : Int32} {x4 : Int32} {x5 : Int32} {x6 : Int32} {x7 : Int32} {x8 : Int32} {x9 : Int32} {y0 : Int32} {h : am_H} {Q : am_Q} {res : Int32 × am_H} (hk71 : ∀ (x1 : Int32) (x2 : Int32) (x3 : Int32) (x4 : Int32) (x5 : Int32) (x6 : Int32) (h : am_H), k71 h x2 x3 x4 x5 x6 = some res → am_W (X_Model_drawn (d + 70)) 71 [some (.ref 0), some (.int x1), some (.int x2), some (.int x3), some (.int x4), some (.int x5), some (.int x6), none, none, none] [] h Q) (hk86 : ∀ (x1 : Int32) (x2 : Int32) (x3 : Int32) (x4 : Int32) (x5 : Int32) (x6 : Int32) (x7 : Int32) (x8 : Int32) (h : am_H), k86 h x2 x3 x4 x5 x6 x7 x8 = some res → am_W (X_Model_drawn (d + 70)) 86 [some (.ref 0), some (.int x1), some (.int x2), some (.int x3), some (.int x4), some (.int x5), some (.int x6), some (.int x7), some (.int x8), none] [] h Q) (e : f_Model_drawn_150 k71 k86 h x2 x3 x4 x6 x7 x8 x9 y0 = some res) (q : Q (some (.int res.1)) res.2) : am_W (X_Model_drawn (d + 70)) 150 [some (.ref 0), some (.int x1), some (.int x2), some (.int x3), some (.int x4), some (.int x5), some (.int x6), some (.int x7), some (.int x8), some (.int x9)] [.int y0] h Q :=
  b_Model_drawn_150 (d := (d + 70)) (k := (t_Model_drawn_155 hk71 hk86 e q))
theorem t_Model_drawn_147 {d : Nat} {k71 : am_H → Int32 → Int32 → Int32 → Int32 → Int32 → Option (Int32 × am_H)} {k86 : am_H → Int32 → Int32 → Int32 → Int32 → Int32 → Int32 → Int32 → Option (Int32 × am_H)} {x1 : Int32} {x2 : Int32} {x3 : Int32} {x4 : Int32} {x5 : Int32} {x6 : Int32} {x7 : Int32} {x8 : Int32} {x9 : Int32} {y1 : Bool} {y0 : Int32} {h : am_H} {Q : am_Q} {res : Int32 × am_H} (hk71 : ∀ (x1 : Int32) (x2 : Int32) (x3 : Int32) (x4 : Int32) (x5 : Int32) (x6 : Int32) (h : am_H), k71 h x2 x3 x4 x5 x6 = some res → am_W (X_Model_drawn (d + 70)) 71 [some (.ref 0), some (.int x1), some (.int x2), some (.int x3), some (.int x4), some (.int x5), some (.int x6), none, none, none] [] h Q) (hk86 : ∀ (x1 : Int32) (x2 : Int32) (x3 : Int32) (x4 : Int32) (x5 : Int32) (x6 : Int32) (x7 : Int32) (x8 : Int32) (h : am_H), k86 h x2 x3 x4 x5 x6 x7 x8 = some res → am_W (X_Model_drawn (d + 70)) 86 [some (.ref 0), some (.int x1), some (.int x2), some (.int x3), some (.int x4), some (.int x5), some (.int x6), some (.int x7), some (.int x8), none] [] h Q) (e : f_Model_drawn_147 k71 k86 h x2 x3 x4 x6 x7 x8 x9 y1 y0 = some res) (q : Q (some (.int res.1)) res.2) : am_W (X_Model_drawn (d + 70)) 147 [some (.ref 0), some (.int x1), some (.int x2), some (.int x3), some (.int x4), some (.int x5), some (.int x6), some (.int x7), some (.int x8), some (.int x9)] [.int (am_b y1), .int y0] h Q :=
  b_Model_drawn_147 (d := (d + 70)) (kt := fun c => (t_Model_drawn_154 hk71 hk86 (am_iff e (am_bz c)) q)) (kf := fun c => (t_Model_drawn_150 hk71 hk86 (am_ift e (am_bn c)) q))
theorem t_Model_drawn_136 {d : Nat} {k71 : am_H → Int32 → Int32 → Int32 → Int32 → Int32 → Option (Int32 × am_H)} {k86 : am_H → Int32 → Int32 → Int32 → Int32 → Int32 → Int32 → Int32 → Option (Int32 × am_H)} {x1 : Int32} {x2 : Int32} {x3 : Int32} {x4 : Int32} {x5 : Int32} {x6 : Int32} {x7 : Int32} {x8 : Int32} {x9 : Int32} {y1 : Int32} {y0 : Int32} {h : am_H} {Q : am_Q} {res : Int32 × am_H} (hk71 : ∀ (x1 : Int32) (x2 : Int32) (x3 : Int32) (x4 : Int32) (x5 : Int32) (x6 : Int32) (h : am_H), k71 h x2 x3 x4 x5 x6 = some res → am_W (X_Model_drawn (d + 70)) 71 [some (.ref 0), some (.int x1), some (.int x2), some (.int x3), some (.int x4), some (.int x5), some (.int x6), none, none, none] [] h Q) (hk86 : ∀ (x1 : Int32) (x2 : Int32) (x3 : Int32) (x4 : Int32) (x5 : Int32) (x6 : Int32) (x7 : Int32) (x8 : Int32) (h : am_H), k86 h x2 x3 x4 x5 x6 x7 x8 = some res → am_W (X_Model_drawn (d + 70)) 86 [some (.ref 0), some (.int x1), some (.int x2), some (.int x3), some (.int x4), some (.int x5), some (.int x6), some (.int x7), some (.int x8), none] [] h Q) (e : f_Model_drawn_136 k71 k86 h x2 x3 x5 x6 x7 x8 x9 y1 y0 = some res) (q : Q (some (.int res.1)) res.2) : am_W (X_Model_drawn (d + 70)) 136 [some (.ref 0), some (.int x1), some (.int x2), some (.int x3), some (.int x4), some (.int x5), some (.int x6), some (.int x7), some (.int x8), some (.int x9)] [.int y1, .int y0] h Q :=
  (am_bd e).elim fun p hp => b_Model_drawn_136 (d := (d + 69)) (k := c_Model_isWater (d := d + 68) hp.1 (t_Model_drawn_147 hk71 hk86 hp.2 q))
theorem t_Model_drawn_135 {d : Nat} {k71 : am_H → Int32 → Int32 → Int32 → Int32 → Int32 → Option (Int32 × am_H)} {k86 : am_H → Int32 → Int32 → Int32 → Int32 → Int32 → Int32 → Int32 → Option (Int32 × am_H)} {x1 : Int32} {x2 : Int32} {x3 : Int32} {x4 : Int32} {x5 : Int32} {x6 : Int32} {x7 : Int32} {x8 : Int32} {x9 : Int32} {y0 : Int32} {h : am_H} {Q : am_Q} {res : Int32 × am_H} (hk71 : ∀ (x1 : Int32) (x2 : Int32) (x3 : Int32) (x4 : Int32) (x5 : Int32) (x6 : Int32) (h : am_H), k71 h x2 x3 x4 x5 x6 = some res → am_W (X_Model_drawn (d + 70)) 71 [some (.ref 0), some (.int x1), some (.int x2), some (.int x3), some (.int x4), some (.int x5), some (.int x6), none, none, none] [] h Q) (hk86 : ∀ (x1 : Int32) (x2 : Int32) (x3 : Int32) (x4 : Int32) (x5 : Int32) (x6 : Int32) (x7 : Int32) (x8 : Int32) (h : am_H), k86 h x2 x3 x4 x5 x6 x7 x8 = some res → am_W (X_Model_drawn (d + 70)) 86 [some (.ref 0), some (.int x1), some (.int x2), some (.int x3), some (.int x4), some (.int x5), some (.int x6), some (.int x7), some (.int x8), none] [] h Q) (e : f_Model_drawn_135 k71 k86 h x2 x3 x5 x6 x7 x8 x9 y0 = some res) (q : Q (some (.int res.1)) res.2) : am_W (X_Model_drawn (d + 70)) 135 [some (.ref 0), some (.int x1), some (.int x2), some (.int x3), some (.int x4), some (.int x5), some (.int x6), some (.int x7), some (.int x8), some (.int x9)] [.int y0] h Q :=
  b_Model_drawn_135 (d := (d + 70)) (k := (t_Model_drawn_136 hk71 hk86 e q))
theorem t_Model_drawn_131 {d : Nat} {k71 : am_H → Int32 → Int32 → Int32 → Int32 → Int32 → Option (Int32 × am_H)} {k86 : am_H → Int32 → Int32 → Int32 → Int32 → Int32 → Int32 → Int32 → Option (Int32 × am_H)} {x1 : Int32} {x2 : Int32} {x3 : Int32} {x4 : Int32} {x5 : Int32} {x6 : Int32} {x7 : Int32} {x8 : Int32} {x9 : Int32} {y0 : Int32} {h : am_H} {Q : am_Q} {res : Int32 × am_H} (hk71 : ∀ (x1 : Int32) (x2 : Int32) (x3 : Int32) (x4 : Int32) (x5 : Int32) (x6 : Int32) (h : am_H), k71 h x2 x3 x4 x5 x6 = some res → am_W (X_Model_drawn (d + 70)) 71 [some (.ref 0), some (.int x1), some (.int x2), some (.int x3), some (.int x4), some (.int x5), some (.int x6), none, none, none] [] h Q) (hk86 : ∀ (x1 : Int32) (x2 : Int32) (x3 : Int32) (x4 : Int32) (x5 : Int32) (x6 : Int32) (x7 : Int32) (x8 : Int32) (h : am_H), k86 h x2 x3 x4 x5 x6 x7 x8 = some res → am_W (X_Model_drawn (d + 70)) 86 [some (.ref 0), some (.int x1), some (.int x2), some (.int x3), some (.int x4), some (.int x5), some (.int x6), some (.int x7), some (.int x8), none] [] h Q) (e : f_Model_drawn_131 k71 k86 h x2 x3 x5 x6 x7 x8 x9 y0 = some res) (q : Q (some (.int res.1)) res.2) : am_W (X_Model_drawn (d + 70)) 131 [some (.ref 0), some (.int x1), some (.int x2), some (.int x3), some (.int x4), some (.int x5), some (.int x6), some (.int x7), some (.int x8), some (.int x9)] [.int y0] h Q :=
  b_Model_drawn_131 (d := (d + 70)) (k := (t_Model_drawn_136 hk71 hk86 e q))
theorem t_Model_drawn_128 {d : Nat} {k71 : am_H → Int32 → Int32 → Int32 → Int32 → Int32 → Option (Int32 × am_H)} {k86 : am_H → Int32 → Int32 → Int32 → Int32 → Int32 → Int32 → Int32 → Option (Int32 × am_H)} {x1 : Int32} {x2 : Int32} {x3 : Int32} {x4 : Int32} {x5 : Int32} {x6 : Int32} {x7 : Int32} {x8 : Int32} {x9 : Int32} {y1 : Bool} {y0 : Int32} {h : am_H} {Q : am_Q} {res : Int32 × am_H} (hk71 : ∀ (x1 : Int32) (x2 : Int32) (x3 : Int32) (x4 : Int32) (x5 : Int32) (x6 : Int32) (h : am_H), k71 h x2 x3 x4 x5 x6 = some res → am_W (X_Model_drawn (d + 70)) 71 [some (.ref 0), some (.int x1), some (.int x2), some (.int x3), some (.int x4), some (.int x5), some (.int x6), none, none, none] [] h Q) (hk86 : ∀ (x1 : Int32) (x2 : Int32) (x3 : Int32) (x4 : Int32) (x5 : Int32) (x6 : Int32) (x7 : Int32) (x8 : Int32) (h : am_H), k86 h x2 x3 x4 x5 x6 x7 x8 = some res → am_W (X_Model_drawn (d + 70)) 86 [some (.ref 0), some (.int x1), some (.int x2), some (.int x3), some (.int x4), some (.int x5), some (.int x6), some (.int x7), some (.int x8), none] [] h Q) (e : f_Model_drawn_128 k71 k86 h x2 x3 x5 x6 x7 x8 x9 y1 y0 = some res) (q : Q (some (.int res.1)) res.2) : am_W (X_Model_drawn (d + 70)) 128 [some (.ref 0), some (.int x1), some (.int x2), some (.int x3), some (.int x4), some (.int x5), some (.int x6), some (.int x7), some (.int x8), some (.int x9)] [.int (am_b y1), .int y0] h Q :=
  b_Model_drawn_128 (d := (d + 70)) (kt := fun c => (t_Model_drawn_135 hk71 hk86 (am_iff e (am_bz c)) q)) (kf := fun c => (t_Model_drawn_131 hk71 hk86 (am_ift e (am_bn c)) q))
theorem t_Model_drawn_118 {d : Nat} {k71 : am_H → Int32 → Int32 → Int32 → Int32 → Int32 → Option (Int32 × am_H)} {k86 : am_H → Int32 → Int32 → Int32 → Int32 → Int32 → Int32 → Int32 → Option (Int32 × am_H)} {x1 : Int32} {x2 : Int32} {x3 : Int32} {x4 : Int32} {x5 : Int32} {x6 : Int32} {x7 : Int32} {x8 : Int32} {y0 : Int32} {h : am_H} {Q : am_Q} {res : Int32 × am_H} (hk71 : ∀ (x1 : Int32) (x2 : Int32) (x3 : Int32) (x4 : Int32) (x5 : Int32) (x6 : Int32) (h : am_H), k71 h x2 x3 x4 x5 x6 = some res → am_W (X_Model_drawn (d + 70)) 71 [some (.ref 0), some (.int x1), some (.int x2), some (.int x3), some (.int x4), some (.int x5), some (.int x6), none, none, none] [] h Q) (hk86 : ∀ (x1 : Int32) (x2 : Int32) (x3 : Int32) (x4 : Int32) (x5 : Int32) (x6 : Int32) (x7 : Int32) (x8 : Int32) (h : am_H), k86 h x2 x3 x4 x5 x6 x7 x8 = some res → am_W (X_Model_drawn (d + 70)) 86 [some (.ref 0), some (.int x1), some (.int x2), some (.int x3), some (.int x4), some (.int x5), some (.int x6), some (.int x7), some (.int x8), none] [] h Q) (e : f_Model_drawn_118 k71 k86 h x2 x3 x4 x5 x6 x7 x8 y0 = some res) (q : Q (some (.int res.1)) res.2) : am_W (X_Model_drawn (d + 70)) 118 [some (.ref 0), some (.int x1), some (.int x2), some (.int x3), some (.int x4), some (.int x5), some (.int x6), some (.int x7), some (.int x8), none] [.int y0] h Q :=
  (am_bd e).elim fun p hp => b_Model_drawn_118 (d := (d + 69)) (k := c_Model_isWater (d := d + 68) hp.1 (t_Model_drawn_128 hk71 hk86 hp.2 q))
theorem t_Model_drawn_102 {d : Nat} {k71 : am_H → Int32 → Int32 → Int32 → Int32 → Int32 → Option (Int32 × am_H)} {k86 : am_H → Int32 → Int32 → Int32 → Int32 → Int32 → Int32 → Int32 → Option (Int32 × am_H)} {x1 : Int32} {x2 : Int32} {x3 : Int32} {x4 : Int32} {x5 : Int32} {x6 : Int32} {x7 : Int32} {x8 : Int32} {h : am_H} {Q : am_Q} {res : Int32 × am_H} (hk71 : ∀ (x1 : Int32) (x2 : Int32) (x3 : Int32) (x4 : Int32) (x5 : Int32) (x6 : Int32) (h : am_H), k71 h x2 x3 x4 x5 x6 = some res → am_W (X_Model_drawn (d + 70)) 71 [some (.ref 0), some (.int x1), some (.int x2), some (.int x3), some (.int x4), some (.int x5), some (.int x6), none, none, none] [] h Q) (hk86 : ∀ (x1 : Int32) (x2 : Int32) (x3 : Int32) (x4 : Int32) (x5 : Int32) (x6 : Int32) (x7 : Int32) (x8 : Int32) (h : am_H), k86 h x2 x3 x4 x5 x6 x7 x8 = some res → am_W (X_Model_drawn (d + 70)) 86 [some (.ref 0), some (.int x1), some (.int x2), some (.int x3), some (.int x4), some (.int x5), some (.int x6), some (.int x7), some (.int x8), none] [] h Q) (e : f_Model_drawn_102 k71 k86 h x2 x3 x4 x5 x6 x7 x8 = some res) (q : Q (some (.int res.1)) res.2) : am_W (X_Model_drawn (d + 70)) 102 [some (.ref 0), some (.int x1), some (.int x2), some (.int x3), some (.int x4), some (.int x5), some (.int x6), some (.int x7), some (.int x8), none] [] h Q :=
  (am_bd (am_ga e)).elim fun p hp => b_Model_drawn_102 (d := (d + 69)) (q0 := (am_okv (am_gd e))) (k := c_Model_drawnDown (d := d + 67) hp.1 (t_Model_drawn_118 hk71 hk86 hp.2 q))
theorem t_Model_drawn_99 {d : Nat} {k71 : am_H → Int32 → Int32 → Int32 → Int32 → Int32 → Option (Int32 × am_H)} {k86 : am_H → Int32 → Int32 → Int32 → Int32 → Int32 → Int32 → Int32 → Option (Int32 × am_H)} {x1 : Int32} {x2 : Int32} {x3 : Int32} {x4 : Int32} {x5 : Int32} {x6 : Int32} {x7 : Int32} {x8 : Int32} {y0 : Bool} {h : am_H} {Q : am_Q} {res : Int32 × am_H} (hk71 : ∀ (x1 : Int32) (x2 : Int32) (x3 : Int32) (x4 : Int32) (x5 : Int32) (x6 : Int32) (h : am_H), k71 h x2 x3 x4 x5 x6 = some res → am_W (X_Model_drawn (d + 70)) 71 [some (.ref 0), some (.int x1), some (.int x2), some (.int x3), some (.int x4), some (.int x5), some (.int x6), none, none, none] [] h Q) (hk86 : ∀ (x1 : Int32) (x2 : Int32) (x3 : Int32) (x4 : Int32) (x5 : Int32) (x6 : Int32) (x7 : Int32) (x8 : Int32) (h : am_H), k86 h x2 x3 x4 x5 x6 x7 x8 = some res → am_W (X_Model_drawn (d + 70)) 86 [some (.ref 0), some (.int x1), some (.int x2), some (.int x3), some (.int x4), some (.int x5), some (.int x6), some (.int x7), some (.int x8), none] [] h Q) (e : f_Model_drawn_99 k71 k86 h x2 x3 x4 x5 x6 x7 x8 y0 = some res) (q : Q (some (.int res.1)) res.2) : am_W (X_Model_drawn (d + 70)) 99 [some (.ref 0), some (.int x1), some (.int x2), some (.int x3), some (.int x4), some (.int x5), some (.int x6), some (.int x7), some (.int x8), none] [.int (am_b y0)] h Q :=
  b_Model_drawn_99 (d := (d + 70)) (kt := fun c => (t_Model_drawn_182 hk71 (am_ift e (am_bn c)) q)) (kf := fun c => (t_Model_drawn_102 hk71 hk86 (am_iff e (am_bz c)) q))
theorem t_Model_drawn_93 {d : Nat} {k71 : am_H → Int32 → Int32 → Int32 → Int32 → Int32 → Option (Int32 × am_H)} {k86 : am_H → Int32 → Int32 → Int32 → Int32 → Int32 → Int32 → Int32 → Option (Int32 × am_H)} {x1 : Int32} {x2 : Int32} {x3 : Int32} {x4 : Int32} {x5 : Int32} {x6 : Int32} {x7 : Int32} {x8 : Int32} {h : am_H} {Q : am_Q} {res : Int32 × am_H} (hk71 : ∀ (x1 : Int32) (x2 : Int32) (x3 : Int32) (x4 : Int32) (x5 : Int32) (x6 : Int32) (h : am_H), k71 h x2 x3 x4 x5 x6 = some res → am_W (X_Model_drawn (d + 70)) 71 [some (.ref 0), some (.int x1), some (.int x2), some (.int x3), some (.int x4), some (.int x5), some (.int x6), none, none, none] [] h Q) (hk86 : ∀ (x1 : Int32) (x2 : Int32) (x3 : Int32) (x4 : Int32) (x5 : Int32) (x6 : Int32) (x7 : Int32) (x8 : Int32) (h : am_H), k86 h x2 x3 x4 x5 x6 x7 x8 = some res → am_W (X_Model_drawn (d + 70)) 86 [some (.ref 0), some (.int x1), some (.int x2), some (.int x3), some (.int x4), some (.int x5), some (.int x6), some (.int x7), some (.int x8), none] [] h Q) (e : f_Model_drawn_93 k71 k86 h x2 x3 x4 x5 x6 x7 x8 = some res) (q : Q (some (.int res.1)) res.2) : am_W (X_Model_drawn (d + 70)) 93 [some (.ref 0), some (.int x1), some (.int x2), some (.int x3), some (.int x4), some (.int x5), some (.int x6), some (.int x7), some (.int x8), none] [] h Q :=
  (am_bd e).elim fun p hp => b_Model_drawn_93 (d := (d + 69)) (k := c_Model_isGreen (d := d + 69) hp.1 (t_Model_drawn_99 hk71 hk86 hp.2 q))
theorem t_Model_drawn_86 {d : Nat} {k71 : am_H → Int32 → Int32 → Int32 → Int32 → Int32 → Option (Int32 × am_H)} {k86 : am_H → Int32 → Int32 → Int32 → Int32 → Int32 → Int32 → Int32 → Option (Int32 × am_H)} {x1 : Int32} {x2 : Int32} {x3 : Int32} {x4 : Int32} {x5 : Int32} {x6 : Int32} {x7 : Int32} {x8 : Int32} {h : am_H} {Q : am_Q} {res : Int32 × am_H} (hk71 : ∀ (x1 : Int32) (x2 : Int32) (x3 : Int32) (x4 : Int32) (x5 : Int32) (x6 : Int32) (h : am_H), k71 h x2 x3 x4 x5 x6 = some res → am_W (X_Model_drawn (d + 70)) 71 [some (.ref 0), some (.int x1), some (.int x2), some (.int x3), some (.int x4), some (.int x5), some (.int x6), none, none, none] [] h Q) (hk86 : ∀ (x1 : Int32) (x2 : Int32) (x3 : Int32) (x4 : Int32) (x5 : Int32) (x6 : Int32) (x7 : Int32) (x8 : Int32) (h : am_H), k86 h x2 x3 x4 x5 x6 x7 x8 = some res → am_W (X_Model_drawn (d + 70)) 86 [some (.ref 0), some (.int x1), some (.int x2), some (.int x3), some (.int x4), some (.int x5), some (.int x6), some (.int x7), some (.int x8), none] [] h Q) (e : f_Model_drawn_86 k71 k86 h x2 x3 x4 x5 x6 x7 x8 = some res) (q : Q (some (.int res.1)) res.2) : am_W (X_Model_drawn (d + 70)) 86 [some (.ref 0), some (.int x1), some (.int x2), some (.int x3), some (.int x4), some (.int x5), some (.int x6), some (.int x7), some (.int x8), none] [] h Q :=
  b_Model_drawn_86 (d := (d + 70)) (kt := fun c => (t_Model_drawn_182 hk71 (am_ift e c) q)) (kf := fun c => (t_Model_drawn_93 hk71 hk86 (am_ife e c) q))
theorem t_Model_drawn_86_l {d : Nat} {k71 : am_H → Int32 → Int32 → Int32 → Int32 → Int32 → Option (Int32 × am_H)} {Q : am_Q} {res : Int32 × am_H} (hk71 : ∀ (x1 : Int32) (x2 : Int32) (x3 : Int32) (x4 : Int32) (x5 : Int32) (x6 : Int32) (h : am_H), k71 h x2 x3 x4 x5 x6 = some res → am_W (X_Model_drawn (d + 70)) 71 [some (.ref 0), some (.int x1), some (.int x2), some (.int x3), some (.int x4), some (.int x5), some (.int x6), none, none, none] [] h Q) (q : Q (some (.int res.1)) res.2) : ∀ (n : Nat) (x1 : Int32) (x2 : Int32) (x3 : Int32) (x4 : Int32) (x5 : Int32) (x6 : Int32) (x7 : Int32) (x8 : Int32) (h : am_H), f_Model_drawn_86_l k71 n h x2 x3 x4 x5 x6 x7 x8 = some res → am_W (X_Model_drawn (d + 70)) 86 [some (.ref 0), some (.int x1), some (.int x2), some (.int x3), some (.int x4), some (.int x5), some (.int x6), some (.int x7), some (.int x8), none] [] h Q := by
  intro n
  induction n with
  | zero => intro x1 x2 x3 x4 x5 x6 x7 x8 h e; exact am_nn e
  | succ n ih => intro x1 x2 x3 x4 x5 x6 x7 x8 h e; exact t_Model_drawn_86 hk71 (fun x1 x2 x3 x4 x5 x6 x7 x8 h e => ih x1 x2 x3 x4 x5 x6 x7 x8 h  e) e q
theorem t_Model_drawn_80 {d : Nat} {k71 : am_H → Int32 → Int32 → Int32 → Int32 → Int32 → Option (Int32 × am_H)} {x1 : Int32} {x2 : Int32} {x3 : Int32} {x4 : Int32} {x5 : Int32} {x6 : Int32} {h : am_H} {Q : am_Q} {res : Int32 × am_H} (hk71 : ∀ (x1 : Int32) (x2 : Int32) (x3 : Int32) (x4 : Int32) (x5 : Int32) (x6 : Int32) (h : am_H), k71 h x2 x3 x4 x5 x6 = some res → am_W (X_Model_drawn (d + 70)) 71 [some (.ref 0), some (.int x1), some (.int x2), some (.int x3), some (.int x4), some (.int x5), some (.int x6), none, none, none] [] h Q) (e : f_Model_drawn_80 k71 h x2 x3 x4 x5 x6 = some res) (q : Q (some (.int res.1)) res.2) : am_W (X_Model_drawn (d + 70)) 80 [some (.ref 0), some (.int x1), some (.int x2), some (.int x3), some (.int x4), some (.int x5), some (.int x6), none, none, none] [] h Q :=
  b_Model_drawn_80 (d := (d + 70)) (k := (t_Model_drawn_86_l hk71 q am_fu _ _ _ _ _ _ _ _ _ e))
theorem t_Model_drawn_71 {d : Nat} {k71 : am_H → Int32 → Int32 → Int32 → Int32 → Int32 → Option (Int32 × am_H)} {x1 : Int32} {x2 : Int32} {x3 : Int32} {x4 : Int32} {x5 : Int32} {x6 : Int32} {h : am_H} {Q : am_Q} {res : Int32 × am_H} (hk71 : ∀ (x1 : Int32) (x2 : Int32) (x3 : Int32) (x4 : Int32) (x5 : Int32) (x6 : Int32) (h : am_H), k71 h x2 x3 x4 x5 x6 = some res → am_W (X_Model_drawn (d + 70)) 71 [some (.ref 0), some (.int x1), some (.int x2), some (.int x3), some (.int x4), some (.int x5), some (.int x6), none, none, none] [] h Q) (e : f_Model_drawn_71 k71 h x2 x3 x4 x5 x6 = some res) (q : Q (some (.int res.1)) res.2) : am_W (X_Model_drawn (d + 70)) 71 [some (.ref 0), some (.int x1), some (.int x2), some (.int x3), some (.int x4), some (.int x5), some (.int x6), none, none, none] [] h Q :=
  b_Model_drawn_71 (d := (d + 70)) (kt := fun c => (t_Model_drawn_212 (am_ift e c) q)) (kf := fun c => (t_Model_drawn_80 hk71 (am_ife e c) q))
theorem t_Model_drawn_71_l {d : Nat} {Q : am_Q} {res : Int32 × am_H} (q : Q (some (.int res.1)) res.2) : ∀ (n : Nat) (x1 : Int32) (x2 : Int32) (x3 : Int32) (x4 : Int32) (x5 : Int32) (x6 : Int32) (h : am_H), f_Model_drawn_71_l n h x2 x3 x4 x5 x6 = some res → am_W (X_Model_drawn (d + 70)) 71 [some (.ref 0), some (.int x1), some (.int x2), some (.int x3), some (.int x4), some (.int x5), some (.int x6), none, none, none] [] h Q := by
  intro n
  induction n with
  | zero => intro x1 x2 x3 x4 x5 x6 h e; exact am_nn e
  | succ n ih => intro x1 x2 x3 x4 x5 x6 h e; exact t_Model_drawn_71 (fun x1 x2 x3 x4 x5 x6 h e => ih x1 x2 x3 x4 x5 x6 h  e) e q
theorem t_Model_drawn_57 {d : Nat} {x1 : Int32} {x2 : Int32} {x3 : Int32} {h : am_H} {Q : am_Q} {res : Int32 × am_H} (e : f_Model_drawn_57 h x1 x2 x3 = some res) (q : Q (some (.int res.1)) res.2) : am_W (X_Model_drawn (d + 70)) 57 [some (.ref 0), some (.int x1), some (.int x2), some (.int x3), none, none, none, none, none, none] [] h Q :=
  b_Model_drawn_57 (d := (d + 70)) (k := (t_Model_drawn_71_l q am_fu _ _ _ _ _ _ _ e))
theorem t_Model_drawn_49 {d : Nat} {x1 : Int32} {x2 : Int32} {x3 : Int32} {h : am_H} {Q : am_Q} {res : Int32 × am_H} (e : f_Model_drawn_49 h x1 x2 x3 = some res) (q : Q (some (.int res.1)) res.2) : am_W (X_Model_drawn (d + 70)) 49 [some (.ref 0), some (.int x1), some (.int x2), some (.int x3), none, none, none, none, none, none] [] h Q :=
  (am_bd e).elim fun p hp => b_Model_drawn_49 (d := (d + 69)) (k := c_Model_fills (d := d) hp.1 (t_Model_drawn_57 hp.2 q))
theorem t_Model_drawn_46 {d : Nat} {x1 : Int32} {x2 : Int32} {x3 : Int32} {h : am_H} {Q : am_Q} {res : Int32 × am_H} (e : f_Model_drawn_46 h = some res) (q : Q (some (.int res.1)) res.2) : am_W (X_Model_drawn (d + 70)) 46 [some (.ref 0), some (.int x1), some (.int x2), some (.int x3), none, none, none, none, none, none] [] h Q :=
  b_Model_drawn_46 (d := (d + 70)) (q := (am_rIpi (v := (-5)) e q))
theorem t_Model_drawn_39 {d : Nat} {x1 : Int32} {x2 : Int32} {x3 : Int32} {h : am_H} {Q : am_Q} {res : Int32 × am_H} (e : f_Model_drawn_39 h x1 x2 x3 = some res) (q : Q (some (.int res.1)) res.2) : am_W (X_Model_drawn (d + 70)) 39 [some (.ref 0), some (.int x1), some (.int x2), some (.int x3), none, none, none, none, none, none] [] h Q :=
  b_Model_drawn_39 (d := (d + 70)) (kt := fun c => (t_Model_drawn_49 (am_ife e c) q)) (kf := fun c => (t_Model_drawn_46 (am_ift e c) q))
theorem t_Model_drawn_34 {d : Nat} {x1 : Int32} {x2 : Int32} {x3 : Int32} {y0 : Bool} {h : am_H} {Q : am_Q} {res : Int32 × am_H} (e : f_Model_drawn_34 h x1 x2 x3 y0 = some res) (q : Q (some (.int res.1)) res.2) : am_W (X_Model_drawn (d + 70)) 34 [some (.ref 0), some (.int x1), some (.int x2), some (.int x3), none, none, none, none, none, none] [.int (am_b y0)] h Q :=
  b_Model_drawn_34 (d := (d + 70)) (kt := fun c => (t_Model_drawn_39 (am_ift e (am_bn c)) q)) (kf := fun c => (t_Model_drawn_37 (am_iff e (am_bz c)) q))
theorem t_Model_drawn_27 {d : Nat} {x1 : Int32} {x2 : Int32} {x3 : Int32} {h : am_H} {Q : am_Q} {res : Int32 × am_H} (e : f_Model_drawn_27 h x1 x2 x3 = some res) (q : Q (some (.int res.1)) res.2) : am_W (X_Model_drawn (d + 70)) 27 [some (.ref 0), some (.int x1), some (.int x2), some (.int x3), none, none, none, none, none, none] [] h Q :=
  b_Model_drawn_27 (d := (d + 69)) (k := c_Model_within (d := d + 69) rfl (t_Model_drawn_34 e q))
theorem t_Model_drawn_19 {d : Nat} {x1 : Int32} {x2 : Int32} {x3 : Int32} {h : am_H} {Q : am_Q} {res : Int32 × am_H} (e : f_Model_drawn_19 h x1 x2 x3 = some res) (q : Q (some (.int res.1)) res.2) : am_W (X_Model_drawn (d + 70)) 19 [some (.ref 0), some (.int x1), some (.int x2), some (.int x3), none, none, none, none, none, none] [] h Q :=
  b_Model_drawn_19 (d := (d + 70)) (kt := fun c => (t_Model_drawn_37 (am_ift e c) q)) (kf := fun c => (t_Model_drawn_27 (am_ife e c) q))
theorem t_Model_drawn_16 {d : Nat} {x1 : Int32} {x2 : Int32} {x3 : Int32} {y0 : Bool} {h : am_H} {Q : am_Q} {res : Int32 × am_H} (e : f_Model_drawn_16 h x1 x2 x3 y0 = some res) (q : Q (some (.int res.1)) res.2) : am_W (X_Model_drawn (d + 70)) 16 [some (.ref 0), some (.int x1), some (.int x2), some (.int x3), none, none, none, none, none, none] [.int (am_b y0)] h Q :=
  b_Model_drawn_16 (d := (d + 70)) (kt := fun c => (t_Model_drawn_37 (am_iff e (am_bz c)) q)) (kf := fun c => (t_Model_drawn_19 (am_ift e (am_bn c)) q))
theorem t_Model_drawn_4 {d : Nat} {x1 : Int32} {x2 : Int32} {x3 : Int32} {h : am_H} {Q : am_Q} {res : Int32 × am_H} (e : f_Model_drawn_4 h x1 x2 x3 = some res) (q : Q (some (.int res.1)) res.2) : am_W (X_Model_drawn (d + 70)) 4 [some (.ref 0), some (.int x1), some (.int x2), some (.int x3), none, none, none, none, none, none] [] h Q :=
  b_Model_drawn_4 (d := (d + 69)) (k := c_Model_within (d := d + 69) rfl (t_Model_drawn_16 e q))
theorem t_Model_drawn_0 {d : Nat} {x1 : Int32} {x2 : Int32} {x3 : Int32} {h : am_H} {Q : am_Q} {res : Int32 × am_H} (e : f_Model_drawn h x1 x2 x3 = some res) (q : Q (some (.int res.1)) res.2) : am_W (X_Model_drawn (d + 70)) 0 [some (.ref 0), some (.int x1), some (.int x2), some (.int x3), none, none, none, none, none, none] [] h Q :=
  b_Model_drawn_0 (d := (d + 70)) (kt := fun c => (t_Model_drawn_37 (am_ift e c) q)) (kf := fun c => (t_Model_drawn_4 (am_ife e c) q))
theorem c_Model_drawn {d : Nat} {x1 : Int32} {x2 : Int32} {x3 : Int32} {h : am_H} {Q : am_Q} {res : Int32 × am_H} (e : f_Model_drawn h x1 x2 x3 = some res) (q : Q (some (.int res.1)) res.2) : m_Model_drawn (d + 70) [.ref 0, .int x1, .int x2, .int x3] h Q :=
  e_Model_drawn (t_Model_drawn_0 e q)
theorem d_Model_hit_0 : decode prog_12_method_70_code 0 = .ok (.aload_n 0, 1) := by decide +kernel
theorem d_Model_hit_1 : decode prog_12_method_70_code 1 = .ok (.iload_n 1, 1) := by decide +kernel
theorem d_Model_hit_2 : decode prog_12_method_70_code 2 = .ok (.i2l, 1) := by decide +kernel
theorem d_Model_hit_3 : decode prog_12_method_70_code 3 = .ok (.invokevirtual 114, 3) := by decide +kernel
theorem d_Model_hit_6 : decode prog_12_method_70_code 6 = .ok (.ifCond .ne 5, 3) := by decide +kernel
theorem d_Model_hit_9 : decode prog_12_method_70_code 9 = .ok (.iconst (-1), 1) := by decide +kernel
theorem d_Model_hit_10 : decode prog_12_method_70_code 10 = .ok (.ireturn, 1) := by decide +kernel
theorem d_Model_hit_11 : decode prog_12_method_70_code 11 = .ok (.aload_n 0, 1) := by decide +kernel
theorem d_Model_hit_12 : decode prog_12_method_70_code 12 = .ok (.aload_n 0, 1) := by decide +kernel
theorem d_Model_hit_13 : decode prog_12_method_70_code 13 = .ok (.getfield 139, 3) := by decide +kernel
theorem d_Model_hit_16 : decode prog_12_method_70_code 16 = .ok (.invokevirtual 89, 3) := by decide +kernel
theorem d_Model_hit_19 : decode prog_12_method_70_code 19 = .ok (.ifCond .eq 6, 3) := by decide +kernel
theorem d_Model_hit_22 : decode prog_12_method_70_code 22 = .ok (.bipush (-5), 2) := by decide +kernel
theorem d_Model_hit_24 : decode prog_12_method_70_code 24 = .ok (.ireturn, 1) := by decide +kernel
theorem d_Model_hit_25 : decode prog_12_method_70_code 25 = .ok (.aload_n 0, 1) := by decide +kernel
theorem d_Model_hit_26 : decode prog_12_method_70_code 26 = .ok (.iload_n 2, 1) := by decide +kernel
theorem d_Model_hit_27 : decode prog_12_method_70_code 27 = .ok (.putfield 282, 3) := by decide +kernel
theorem d_Model_hit_30 : decode prog_12_method_70_code 30 = .ok (.aload_n 0, 1) := by decide +kernel
theorem d_Model_hit_31 : decode prog_12_method_70_code 31 = .ok (.aload_n 0, 1) := by decide +kernel
theorem d_Model_hit_32 : decode prog_12_method_70_code 32 = .ok (.getfield 139, 3) := by decide +kernel
theorem d_Model_hit_35 : decode prog_12_method_70_code 35 = .ok (.iload_n 1, 1) := by decide +kernel
theorem d_Model_hit_36 : decode prog_12_method_70_code 36 = .ok (.invokevirtual 291, 3) := by decide +kernel
theorem d_Model_hit_39 : decode prog_12_method_70_code 39 = .ok (.istore_n 3, 1) := by decide +kernel
theorem d_Model_hit_40 : decode prog_12_method_70_code 40 = .ok (.aload_n 0, 1) := by decide +kernel
theorem d_Model_hit_41 : decode prog_12_method_70_code 41 = .ok (.getfield 46, 3) := by decide +kernel
theorem d_Model_hit_44 : decode prog_12_method_70_code 44 = .ok (.iconst 0, 1) := by decide +kernel
theorem d_Model_hit_45 : decode prog_12_method_70_code 45 = .ok (.dup2, 1) := by decide +kernel
theorem d_Model_hit_46 : decode prog_12_method_70_code 46 = .ok (.iaload, 1) := by decide +kernel
theorem d_Model_hit_47 : decode prog_12_method_70_code 47 = .ok (.aload_n 0, 1) := by decide +kernel
theorem d_Model_hit_48 : decode prog_12_method_70_code 48 = .ok (.iload_n 3, 1) := by decide +kernel
theorem d_Model_hit_49 : decode prog_12_method_70_code 49 = .ok (.invokevirtual 217, 3) := by decide +kernel
theorem d_Model_hit_52 : decode prog_12_method_70_code 52 = .ok (.ifCond .eq 7, 3) := by decide +kernel
theorem d_Model_hit_55 : decode prog_12_method_70_code 55 = .ok (.iconst 2, 1) := by decide +kernel
theorem d_Model_hit_56 : decode prog_12_method_70_code 56 = .ok (.goto 4, 3) := by decide +kernel
theorem d_Model_hit_59 : decode prog_12_method_70_code 59 = .ok (.iconst 1, 1) := by decide +kernel
theorem d_Model_hit_60 : decode prog_12_method_70_code 60 = .ok (.iadd, 1) := by decide +kernel
theorem d_Model_hit_61 : decode prog_12_method_70_code 61 = .ok (.iastore, 1) := by decide +kernel
theorem d_Model_hit_62 : decode prog_12_method_70_code 62 = .ok (.aload_n 0, 1) := by decide +kernel
theorem d_Model_hit_63 : decode prog_12_method_70_code 63 = .ok (.getfield 46, 3) := by decide +kernel
theorem d_Model_hit_66 : decode prog_12_method_70_code 66 = .ok (.iconst 3, 1) := by decide +kernel
theorem d_Model_hit_67 : decode prog_12_method_70_code 67 = .ok (.dup2, 1) := by decide +kernel
theorem d_Model_hit_68 : decode prog_12_method_70_code 68 = .ok (.iaload, 1) := by decide +kernel
theorem d_Model_hit_69 : decode prog_12_method_70_code 69 = .ok (.aload_n 0, 1) := by decide +kernel
theorem d_Model_hit_70 : decode prog_12_method_70_code 70 = .ok (.iload_n 3, 1) := by decide +kernel
theorem d_Model_hit_71 : decode prog_12_method_70_code 71 = .ok (.invokevirtual 217, 3) := by decide +kernel
theorem d_Model_hit_74 : decode prog_12_method_70_code 74 = .ok (.ifCond .eq 7, 3) := by decide +kernel
theorem d_Model_hit_77 : decode prog_12_method_70_code 77 = .ok (.iconst 1, 1) := by decide +kernel
theorem d_Model_hit_78 : decode prog_12_method_70_code 78 = .ok (.goto 4, 3) := by decide +kernel
theorem d_Model_hit_81 : decode prog_12_method_70_code 81 = .ok (.iconst 0, 1) := by decide +kernel
theorem d_Model_hit_82 : decode prog_12_method_70_code 82 = .ok (.iadd, 1) := by decide +kernel
theorem d_Model_hit_83 : decode prog_12_method_70_code 83 = .ok (.iastore, 1) := by decide +kernel
theorem d_Model_hit_84 : decode prog_12_method_70_code 84 = .ok (.aload_n 0, 1) := by decide +kernel
theorem d_Model_hit_85 : decode prog_12_method_70_code 85 = .ok (.aload_n 0, 1) := by decide +kernel
theorem d_Model_hit_86 : decode prog_12_method_70_code 86 = .ok (.iload_n 3, 1) := by decide +kernel
theorem d_Model_hit_87 : decode prog_12_method_70_code 87 = .ok (.invokevirtual 217, 3) := by decide +kernel
theorem d_Model_hit_90 : decode prog_12_method_70_code 90 = .ok (.ifCond .eq 10, 3) := by decide +kernel
theorem d_Model_hit_93 : decode prog_12_method_70_code 93 = .ok (.aload_n 0, 1) := by decide +kernel
theorem d_Model_hit_94 : decode prog_12_method_70_code 94 = .ok (.getfield 139, 3) := by decide +kernel
theorem d_Model_hit_97 : decode prog_12_method_70_code 97 = .ok (.goto 4, 3) := by decide +kernel
theorem d_Model_hit_100 : decode prog_12_method_70_code 100 = .ok (.iload_n 3, 1) := by decide +kernel
theorem d_Model_hit_101 : decode prog_12_method_70_code 101 = .ok (.putfield 139, 3) := by decide +kernel
theorem d_Model_hit_104 : decode prog_12_method_70_code 104 = .ok (.aload_n 0, 1) := by decide +kernel
theorem d_Model_hit_105 : decode prog_12_method_70_code 105 = .ok (.getfield 139, 3) := by decide +kernel
theorem d_Model_hit_108 : decode prog_12_method_70_code 108 = .ok (.ireturn, 1) := by decide +kernel
theorem b_Model_hit_0 {d : Nat} {x1 : Int32} {x2 : Int32} {h : am_H} {Q : am_Q} (k : m_Model_isClub d [.ref 0, .long x1.toInt64] h (fun r hh => am_W (X_Model_hit (d + 1)) 6 [some (.ref 0), some (.int x1), some (.int x2), none] (r.toList ++ []) hh Q)) : am_W (X_Model_hit (d + 1)) 0 [some (.ref 0), some (.int x1), some (.int x2), none] [] h Q :=
  am_aload_n d_Model_hit_0 rfl (i := 0) rfl <|
    am_iload_n d_Model_hit_1 rfl (i := 1) rfl <|
    am_i2l d_Model_hit_2 <|
    am_callV (vs := [.long x1.toInt64]) (st := []) (k := 0) (ci := 10) rfl d_Model_hit_3 rfl rfl w_1472 w_1474 w_36 w_94 w_1475 p_Model_isClub (Nat.le_of_ble_eq_true rfl) (Nat.le_of_ble_eq_true rfl) rfl k
theorem b_Model_hit_6 {d : Nat} {x1 : Int32} {x2 : Int32} {y0 : Bool} {h : am_H} {Q : am_Q} (kt : ¬ (am_b y0) = 0 → am_W (X_Model_hit d) 11 [some (.ref 0), some (.int x1), some (.int x2), none] [] h Q) (kf : (am_b y0) = 0 → am_W (X_Model_hit d) 9 [some (.ref 0), some (.int x1), some (.int x2), none] [] h Q) : am_W (X_Model_hit d) 6 [some (.ref 0), some (.int x1), some (.int x2), none] [.int (am_b y0)] h Q :=
  am_if_ne (tgt := 11) d_Model_hit_6 (by decide) kt kf
theorem b_Model_hit_9 {d : Nat} {x1 : Int32} {x2 : Int32} {h : am_H} {Q : am_Q} (q : Q (some (.int (-1))) h) : am_W (X_Model_hit d) 9 [some (.ref 0), some (.int x1), some (.int x2), none] [] h Q :=
  am_iconst (v := (-1)) d_Model_hit_9 (by decide) <|
    am_iret rfl d_Model_hit_10 q
theorem b_Model_hit_11 {d : Nat} {x1 : Int32} {x2 : Int32} {h : am_H} {Q : am_Q} (k : m_Model_isGreen d [.ref 0, .int (h.1 0 22)] h (fun r hh => am_W (X_Model_hit (d + 1)) 19 [some (.ref 0), some (.int x1), some (.int x2), none] (r.toList ++ []) hh Q)) : am_W (X_Model_hit (d + 1)) 11 [some (.ref 0), some (.int x1), some (.int x2), none] [] h Q :=
  am_aload_n d_Model_hit_11 rfl (i := 0) rfl <|
    am_aload_n d_Model_hit_12 rfl (i := 0) rfl <|
    am_getI (ci := 10) (i := 22) rfl rfl rfl (Nat.le_of_ble_eq_true rfl) w_1340 d_Model_hit_13 <|
    am_callV (vs := [.int (h.1 0 22)]) (st := []) (k := 0) (ci := 10) rfl d_Model_hit_16 rfl rfl w_1550 w_1552 w_49 w_94 w_1553 p_Model_isGreen (Nat.le_of_ble_eq_true rfl) (Nat.le_of_ble_eq_true rfl) rfl k
theorem b_Model_hit_19 {d : Nat} {x1 : Int32} {x2 : Int32} {y0 : Bool} {h : am_H} {Q : am_Q} (kt : (am_b y0) = 0 → am_W (X_Model_hit d) 25 [some (.ref 0), some (.int x1), some (.int x2), none] [] h Q) (kf : ¬ (am_b y0) = 0 → am_W (X_Model_hit d) 22 [some (.ref 0), some (.int x1), some (.int x2), none] [] h Q) : am_W (X_Model_hit d) 19 [some (.ref 0), some (.int x1), some (.int x2), none] [.int (am_b y0)] h Q :=
  am_if_eq (tgt := 25) d_Model_hit_19 (by decide) kt kf
theorem b_Model_hit_22 {d : Nat} {x1 : Int32} {x2 : Int32} {h : am_H} {Q : am_Q} (q : Q (some (.int (-5))) h) : am_W (X_Model_hit d) 22 [some (.ref 0), some (.int x1), some (.int x2), none] [] h Q :=
  am_bipush (v := (-5)) d_Model_hit_22 (by decide) <|
    am_iret rfl d_Model_hit_24 q
theorem b_Model_hit_25 {d : Nat} {x1 : Int32} {x2 : Int32} {h : am_H} {Q : am_Q} (k : m_Model_drawnDown d [.ref 0, .int ((am_pI h 0 21 x2).1 0 22), .int x1] (am_pI h 0 21 x2) (fun r hh => am_W (X_Model_hit (d + 1)) 39 [some (.ref 0), some (.int x1), some (.int x2), none] (r.toList ++ []) hh Q)) : am_W (X_Model_hit (d + 1)) 25 [some (.ref 0), some (.int x1), some (.int x2), none] [] h Q :=
  am_aload_n d_Model_hit_25 rfl (i := 0) rfl <|
    am_iload_n d_Model_hit_26 rfl (i := 2) rfl <|
    am_putI (ci := 10) (i := 21) rfl rfl rfl (Nat.le_of_ble_eq_true rfl) w_1339 rfl rfl rfl d_Model_hit_27 <|
    am_aload_n d_Model_hit_30 rfl (i := 0) rfl <|
    am_aload_n d_Model_hit_31 rfl (i := 0) rfl <|
    am_getI (ci := 10) (i := 22) rfl rfl rfl (Nat.le_of_ble_eq_true rfl) w_1340 d_Model_hit_32 <|
    am_iload_n d_Model_hit_35 rfl (i := 1) rfl <|
    am_callV (vs := [.int ((am_pI h 0 21 x2).1 0 22), .int x1]) (st := []) (k := 0) (ci := 10) rfl d_Model_hit_36 rfl rfl w_1700 w_1702 w_70 w_94 w_1703 p_Model_drawnDown (Nat.le_of_ble_eq_true rfl) (Nat.le_of_ble_eq_true rfl) rfl k
theorem b_Model_hit_39 {d : Nat} {x1 : Int32} {x2 : Int32} {y0 : Int32} {h : am_H} {Q : am_Q} (k : m_Model_isWater d [.ref 0, .int y0] h (fun r hh => am_W (X_Model_hit (d + 1)) 52 [some (.ref 0), some (.int x1), some (.int x2), some (.int y0)] (r.toList ++ [.int (h.1 12 (0 : Int32).toNatClampNeg), .int 0, .ref 12]) hh Q)) : am_W (X_Model_hit (d + 1)) 39 [some (.ref 0), some (.int x1), some (.int x2), none] [.int y0] h Q :=
  am_istore_n (ls' := [some (.ref 0), some (.int x1), some (.int x2), some (.int y0)]) d_Model_hit_39 rfl (Nat.le_of_ble_eq_true rfl) rfl <|
    am_aload_n d_Model_hit_40 rfl (i := 0) rfl <|
    am_getR (ci := 10) (i := 23) rfl rfl rfl (Nat.le_of_ble_eq_true rfl) w_1341 d_Model_hit_41 <|
    am_iconst (v := 0) d_Model_hit_44 (by decide) <|
    am_dup2RI d_Model_hit_45 <|
    am_iald rfl (am_vin (by decide)) d_Model_hit_46 <|
    am_aload_n d_Model_hit_47 rfl (i := 0) rfl <|
    am_iload_n d_Model_hit_48 rfl (i := 3) rfl <|
    am_callV (vs := [.int y0]) (st := [.int (h.1 12 (0 : Int32).toNatClampNeg), .int 0, .ref 12]) (k := 0) (ci := 10) rfl d_Model_hit_49 rfl rfl w_1586 w_1588 w_56 w_94 w_1589 p_Model_isWater (Nat.le_of_ble_eq_true rfl) (Nat.le_of_ble_eq_true rfl) rfl k
theorem b_Model_hit_52 {d : Nat} {x1 : Int32} {x2 : Int32} {x3 : Int32} {y3 : Bool} {y2 : Int32} {y1 : Int32} {h : am_H} {Q : am_Q} (kt : (am_b y3) = 0 → am_W (X_Model_hit d) 59 [some (.ref 0), some (.int x1), some (.int x2), some (.int x3)] [.int y2, .int y1, .ref 12] h Q) (kf : ¬ (am_b y3) = 0 → am_W (X_Model_hit d) 55 [some (.ref 0), some (.int x1), some (.int x2), some (.int x3)] [.int y2, .int y1, .ref 12] h Q) : am_W (X_Model_hit d) 52 [some (.ref 0), some (.int x1), some (.int x2), some (.int x3)] [.int (am_b y3), .int y2, .int y1, .ref 12] h Q :=
  am_if_eq (tgt := 59) d_Model_hit_52 (by decide) kt kf
theorem b_Model_hit_55 {d : Nat} {x1 : Int32} {x2 : Int32} {x3 : Int32} {y2 : Int32} {y1 : Int32} {h : am_H} {Q : am_Q} (k : am_W (X_Model_hit d) 60 [some (.ref 0), some (.int x1), some (.int x2), some (.int x3)] [.int 2, .int y2, .int y1, .ref 12] h Q) : am_W (X_Model_hit d) 55 [some (.ref 0), some (.int x1), some (.int x2), some (.int x3)] [.int y2, .int y1, .ref 12] h Q :=
  am_iconst (v := 2) d_Model_hit_55 (by decide) <|
    am_goto (tgt := 60) d_Model_hit_56 (by decide) k
theorem b_Model_hit_59 {d : Nat} {x1 : Int32} {x2 : Int32} {x3 : Int32} {y2 : Int32} {y1 : Int32} {h : am_H} {Q : am_Q} (k : am_W (X_Model_hit d) 60 [some (.ref 0), some (.int x1), some (.int x2), some (.int x3)] [.int 1, .int y2, .int y1, .ref 12] h Q) : am_W (X_Model_hit d) 59 [some (.ref 0), some (.int x1), some (.int x2), some (.int x3)] [.int y2, .int y1, .ref 12] h Q :=
  am_iconst (v := 1) d_Model_hit_59 (by decide) <|
    k
theorem b_Model_hit_60 {d : Nat} {x1 : Int32} {x2 : Int32} {x3 : Int32} {y3 : Int32} {y2 : Int32} {y1 : Int32} {h : am_H} {Q : am_Q} (q0 : vp_in y1 5) (k : m_Model_isWater d [.ref 0, .int x3] (am_pI h 12 y1.toNatClampNeg (y2 + y3)) (fun r hh => am_W (X_Model_hit (d + 1)) 74 [some (.ref 0), some (.int x1), some (.int x2), some (.int x3)] (r.toList ++ [.int ((am_pI h 12 y1.toNatClampNeg (y2 + y3)).1 12 (3 : Int32).toNatClampNeg), .int 3, .ref 12]) hh Q)) : am_W (X_Model_hit (d + 1)) 60 [some (.ref 0), some (.int x1), some (.int x2), some (.int x3)] [.int y3, .int y2, .int y1, .ref 12] h Q :=
  am_iadd d_Model_hit_60 <|
    am_iast rfl q0 d_Model_hit_61 <|
    am_aload_n d_Model_hit_62 rfl (i := 0) rfl <|
    am_getR (ci := 10) (i := 23) rfl rfl rfl (Nat.le_of_ble_eq_true rfl) w_1341 d_Model_hit_63 <|
    am_iconst (v := 3) d_Model_hit_66 (by decide) <|
    am_dup2RI d_Model_hit_67 <|
    am_iald rfl (am_vin (by decide)) d_Model_hit_68 <|
    am_aload_n d_Model_hit_69 rfl (i := 0) rfl <|
    am_iload_n d_Model_hit_70 rfl (i := 3) rfl <|
    am_callV (vs := [.int x3]) (st := [.int ((am_pI h 12 y1.toNatClampNeg (y2 + y3)).1 12 (3 : Int32).toNatClampNeg), .int 3, .ref 12]) (k := 0) (ci := 10) rfl d_Model_hit_71 rfl rfl w_1586 w_1588 w_56 w_94 w_1589 p_Model_isWater (Nat.le_of_ble_eq_true rfl) (Nat.le_of_ble_eq_true rfl) rfl k
theorem b_Model_hit_74 {d : Nat} {x1 : Int32} {x2 : Int32} {x3 : Int32} {y3 : Bool} {y2 : Int32} {y1 : Int32} {h : am_H} {Q : am_Q} (kt : (am_b y3) = 0 → am_W (X_Model_hit d) 81 [some (.ref 0), some (.int x1), some (.int x2), some (.int x3)] [.int y2, .int y1, .ref 12] h Q) (kf : ¬ (am_b y3) = 0 → am_W (X_Model_hit d) 77 [some (.ref 0), some (.int x1), some (.int x2), some (.int x3)] [.int y2, .int y1, .ref 12] h Q) : am_W (X_Model_hit d) 74 [some (.ref 0), some (.int x1), some (.int x2), some (.int x3)] [.int (am_b y3), .int y2, .int y1, .ref 12] h Q :=
  am_if_eq (tgt := 81) d_Model_hit_74 (by decide) kt kf
theorem b_Model_hit_77 {d : Nat} {x1 : Int32} {x2 : Int32} {x3 : Int32} {y2 : Int32} {y1 : Int32} {h : am_H} {Q : am_Q} (k : am_W (X_Model_hit d) 82 [some (.ref 0), some (.int x1), some (.int x2), some (.int x3)] [.int 1, .int y2, .int y1, .ref 12] h Q) : am_W (X_Model_hit d) 77 [some (.ref 0), some (.int x1), some (.int x2), some (.int x3)] [.int y2, .int y1, .ref 12] h Q :=
  am_iconst (v := 1) d_Model_hit_77 (by decide) <|
    am_goto (tgt := 82) d_Model_hit_78 (by decide) k
theorem b_Model_hit_81 {d : Nat} {x1 : Int32} {x2 : Int32} {x3 : Int32} {y2 : Int32} {y1 : Int32} {h : am_H} {Q : am_Q} (k : am_W (X_Model_hit d) 82 [some (.ref 0), some (.int x1), some (.int x2), some (.int x3)] [.int 0, .int y2, .int y1, .ref 12] h Q) : am_W (X_Model_hit d) 81 [some (.ref 0), some (.int x1), some (.int x2), some (.int x3)] [.int y2, .int y1, .ref 12] h Q :=
  am_iconst (v := 0) d_Model_hit_81 (by decide) <|
    k
theorem b_Model_hit_82 {d : Nat} {x1 : Int32} {x2 : Int32} {x3 : Int32} {y3 : Int32} {y2 : Int32} {y1 : Int32} {h : am_H} {Q : am_Q} (q0 : vp_in y1 5) (k : m_Model_isWater d [.ref 0, .int x3] (am_pI h 12 y1.toNatClampNeg (y2 + y3)) (fun r hh => am_W (X_Model_hit (d + 1)) 90 [some (.ref 0), some (.int x1), some (.int x2), some (.int x3)] (r.toList ++ [.ref 0]) hh Q)) : am_W (X_Model_hit (d + 1)) 82 [some (.ref 0), some (.int x1), some (.int x2), some (.int x3)] [.int y3, .int y2, .int y1, .ref 12] h Q :=
  am_iadd d_Model_hit_82 <|
    am_iast rfl q0 d_Model_hit_83 <|
    am_aload_n d_Model_hit_84 rfl (i := 0) rfl <|
    am_aload_n d_Model_hit_85 rfl (i := 0) rfl <|
    am_iload_n d_Model_hit_86 rfl (i := 3) rfl <|
    am_callV (vs := [.int x3]) (st := [.ref 0]) (k := 0) (ci := 10) rfl d_Model_hit_87 rfl rfl w_1586 w_1588 w_56 w_94 w_1589 p_Model_isWater (Nat.le_of_ble_eq_true rfl) (Nat.le_of_ble_eq_true rfl) rfl k
theorem b_Model_hit_90 {d : Nat} {x1 : Int32} {x2 : Int32} {x3 : Int32} {y1 : Bool} {h : am_H} {Q : am_Q} (kt : (am_b y1) = 0 → am_W (X_Model_hit d) 100 [some (.ref 0), some (.int x1), some (.int x2), some (.int x3)] [.ref 0] h Q) (kf : ¬ (am_b y1) = 0 → am_W (X_Model_hit d) 93 [some (.ref 0), some (.int x1), some (.int x2), some (.int x3)] [.ref 0] h Q) : am_W (X_Model_hit d) 90 [some (.ref 0), some (.int x1), some (.int x2), some (.int x3)] [.int (am_b y1), .ref 0] h Q :=
  am_if_eq (tgt := 100) d_Model_hit_90 (by decide) kt kf
theorem b_Model_hit_93 {d : Nat} {x1 : Int32} {x2 : Int32} {x3 : Int32} {h : am_H} {Q : am_Q} (k : am_W (X_Model_hit d) 101 [some (.ref 0), some (.int x1), some (.int x2), some (.int x3)] [.int (h.1 0 22), .ref 0] h Q) : am_W (X_Model_hit d) 93 [some (.ref 0), some (.int x1), some (.int x2), some (.int x3)] [.ref 0] h Q :=
  am_aload_n d_Model_hit_93 rfl (i := 0) rfl <|
    am_getI (ci := 10) (i := 22) rfl rfl rfl (Nat.le_of_ble_eq_true rfl) w_1340 d_Model_hit_94 <|
    am_goto (tgt := 101) d_Model_hit_97 (by decide) k
theorem b_Model_hit_100 {d : Nat} {x1 : Int32} {x2 : Int32} {x3 : Int32} {h : am_H} {Q : am_Q} (k : am_W (X_Model_hit d) 101 [some (.ref 0), some (.int x1), some (.int x2), some (.int x3)] [.int x3, .ref 0] h Q) : am_W (X_Model_hit d) 100 [some (.ref 0), some (.int x1), some (.int x2), some (.int x3)] [.ref 0] h Q :=
  am_iload_n d_Model_hit_100 rfl (i := 3) rfl <|
    k
theorem b_Model_hit_101 {d : Nat} {x1 : Int32} {x2 : Int32} {x3 : Int32} {y1 : Int32} {h : am_H} {Q : am_Q} (q : Q (some (.int ((am_pI h 0 22 y1).1 0 22))) (am_pI h 0 22 y1)) : am_W (X_Model_hit d) 101 [some (.ref 0), some (.int x1), some (.int x2), some (.int x3)] [.int y1, .ref 0] h Q :=
  am_putI (ci := 10) (i := 22) rfl rfl rfl (Nat.le_of_ble_eq_true rfl) w_1340 rfl rfl rfl d_Model_hit_101 <|
    am_aload_n d_Model_hit_104 rfl (i := 0) rfl <|
    am_getI (ci := 10) (i := 22) rfl rfl rfl (Nat.le_of_ble_eq_true rfl) w_1340 d_Model_hit_105 <|
    am_iret rfl d_Model_hit_108 q
theorem t_Model_hit_101 {d : Nat} {x1 : Int32} {x2 : Int32} {x3 : Int32} {y1 : Int32} {h : am_H} {Q : am_Q} {res : Int32 × am_H} (e : f_Model_hit_101 h y1 = some res) (q : Q (some (.int res.1)) res.2) : am_W (X_Model_hit (d + 3)) 101 [some (.ref 0), some (.int x1), some (.int x2), some (.int x3)] [.int y1, .ref 0] h Q :=
  b_Model_hit_101 (d := (d + 3)) (q := (am_rIpi (v := ((am_pI h 0 22 y1).1 0 22)) e q))
theorem t_Model_hit_100 {d : Nat} {x1 : Int32} {x2 : Int32} {x3 : Int32} {h : am_H} {Q : am_Q} {res : Int32 × am_H} (e : f_Model_hit_100 h x3 = some res) (q : Q (some (.int res.1)) res.2) : am_W (X_Model_hit (d + 3)) 100 [some (.ref 0), some (.int x1), some (.int x2), some (.int x3)] [.ref 0] h Q :=
  b_Model_hit_100 (d := (d + 3)) (k := (t_Model_hit_101 e q))
theorem t_Model_hit_93 {d : Nat} {x1 : Int32} {x2 : Int32} {x3 : Int32} {h : am_H} {Q : am_Q} {res : Int32 × am_H} (e : f_Model_hit_93 h = some res) (q : Q (some (.int res.1)) res.2) : am_W (X_Model_hit (d + 3)) 93 [some (.ref 0), some (.int x1), some (.int x2), some (.int x3)] [.ref 0] h Q :=
  b_Model_hit_93 (d := (d + 3)) (k := (t_Model_hit_101 e q))
theorem t_Model_hit_90 {d : Nat} {x1 : Int32} {x2 : Int32} {x3 : Int32} {y1 : Bool} {h : am_H} {Q : am_Q} {res : Int32 × am_H} (e : f_Model_hit_90 h x3 y1 = some res) (q : Q (some (.int res.1)) res.2) : am_W (X_Model_hit (d + 3)) 90 [some (.ref 0), some (.int x1), some (.int x2), some (.int x3)] [.int (am_b y1), .ref 0] h Q :=
  b_Model_hit_90 (d := (d + 3)) (kt := fun c => (t_Model_hit_100 (am_iff e (am_bz c)) q)) (kf := fun c => (t_Model_hit_93 (am_ift e (am_bn c)) q))
theorem t_Model_hit_82 {d : Nat} {x1 : Int32} {x2 : Int32} {x3 : Int32} {y3 : Int32} {y2 : Int32} {y1 : Int32} {h : am_H} {Q : am_Q} {res : Int32 × am_H} (e : f_Model_hit_82 h x3 y3 y2 y1 = some res) (q : Q (some (.int res.1)) res.2) : am_W (X_Model_hit (d + 3)) 82 [some (.ref 0), some (.int x1), some (.int x2), some (.int x3)] [.int y3, .int y2, .int y1, .ref 12] h Q :=
  (am_bd (am_ga e)).elim fun p hp => b_Model_hit_82 (d := (d + 2)) (q0 := (am_okv (am_gd e))) (k := c_Model_isWater (d := d + 1) hp.1 (t_Model_hit_90 hp.2 q))
theorem t_Model_hit_81 {d : Nat} {x1 : Int32} {x2 : Int32} {x3 : Int32} {y2 : Int32} {y1 : Int32} {h : am_H} {Q : am_Q} {res : Int32 × am_H} (e : f_Model_hit_81 h x3 y2 y1 = some res) (q : Q (some (.int res.1)) res.2) : am_W (X_Model_hit (d + 3)) 81 [some (.ref 0), some (.int x1), some (.int x2), some (.int x3)] [.int y2, .int y1, .ref 12] h Q :=
  b_Model_hit_81 (d := (d + 3)) (k := (t_Model_hit_82 e q))
theorem t_Model_hit_77 {d : Nat} {x1 : Int32} {x2 : Int32} {x3 : Int32} {y2 : Int32} {y1 : Int32} {h : am_H} {Q : am_Q} {res : Int32 × am_H} (e : f_Model_hit_77 h x3 y2 y1 = some res) (q : Q (some (.int res.1)) res.2) : am_W (X_Model_hit (d + 3)) 77 [some (.ref 0), some (.int x1), some (.int x2), some (.int x3)] [.int y2, .int y1, .ref 12] h Q :=
  b_Model_hit_77 (d := (d + 3)) (k := (t_Model_hit_82 e q))
theorem t_Model_hit_74 {d : Nat} {x1 : Int32} {x2 : Int32} {x3 : Int32} {y3 : Bool} {y2 : Int32} {y1 : Int32} {h : am_H} {Q : am_Q} {res : Int32 × am_H} (e : f_Model_hit_74 h x3 y3 y2 y1 = some res) (q : Q (some (.int res.1)) res.2) : am_W (X_Model_hit (d + 3)) 74 [some (.ref 0), some (.int x1), some (.int x2), some (.int x3)] [.int (am_b y3), .int y2, .int y1, .ref 12] h Q :=
  b_Model_hit_74 (d := (d + 3)) (kt := fun c => (t_Model_hit_81 (am_iff e (am_bz c)) q)) (kf := fun c => (t_Model_hit_77 (am_ift e (am_bn c)) q))
theorem t_Model_hit_60 {d : Nat} {x1 : Int32} {x2 : Int32} {x3 : Int32} {y3 : Int32} {y2 : Int32} {y1 : Int32} {h : am_H} {Q : am_Q} {res : Int32 × am_H} (e : f_Model_hit_60 h x3 y3 y2 y1 = some res) (q : Q (some (.int res.1)) res.2) : am_W (X_Model_hit (d + 3)) 60 [some (.ref 0), some (.int x1), some (.int x2), some (.int x3)] [.int y3, .int y2, .int y1, .ref 12] h Q :=
  (am_bd (am_ga e)).elim fun p hp => b_Model_hit_60 (d := (d + 2)) (q0 := (am_okv (am_gd e))) (k := c_Model_isWater (d := d + 1) hp.1 (t_Model_hit_74 hp.2 q))
theorem t_Model_hit_59 {d : Nat} {x1 : Int32} {x2 : Int32} {x3 : Int32} {y2 : Int32} {y1 : Int32} {h : am_H} {Q : am_Q} {res : Int32 × am_H} (e : f_Model_hit_59 h x3 y2 y1 = some res) (q : Q (some (.int res.1)) res.2) : am_W (X_Model_hit (d + 3)) 59 [some (.ref 0), some (.int x1), some (.int x2), some (.int x3)] [.int y2, .int y1, .ref 12] h Q :=
  b_Model_hit_59 (d := (d + 3)) (k := (t_Model_hit_60 e q))
theorem t_Model_hit_55 {d : Nat} {x1 : Int32} {x2 : Int32} {x3 : Int32} {y2 : Int32} {y1 : Int32} {h : am_H} {Q : am_Q} {res : Int32 × am_H} (e : f_Model_hit_55 h x3 y2 y1 = some res) (q : Q (some (.int res.1)) res.2) : am_W (X_Model_hit (d + 3)) 55 [some (.ref 0), some (.int x1), some (.int x2), some (.int x3)] [.int y2, .int y1, .ref 12] h Q :=
  b_Model_hit_55 (d := (d + 3)) (k := (t_Model_hit_60 e q))
theorem t_Model_hit_52 {d : Nat} {x1 : Int32} {x2 : Int32} {x3 : Int32} {y3 : Bool} {y2 : Int32} {y1 : Int32} {h : am_H} {Q : am_Q} {res : Int32 × am_H} (e : f_Model_hit_52 h x3 y3 y2 y1 = some res) (q : Q (some (.int res.1)) res.2) : am_W (X_Model_hit (d + 3)) 52 [some (.ref 0), some (.int x1), some (.int x2), some (.int x3)] [.int (am_b y3), .int y2, .int y1, .ref 12] h Q :=
  b_Model_hit_52 (d := (d + 3)) (kt := fun c => (t_Model_hit_59 (am_iff e (am_bz c)) q)) (kf := fun c => (t_Model_hit_55 (am_ift e (am_bn c)) q))
theorem t_Model_hit_39 {d : Nat} {x1 : Int32} {x2 : Int32} {y0 : Int32} {h : am_H} {Q : am_Q} {res : Int32 × am_H} (e : f_Model_hit_39 h y0 = some res) (q : Q (some (.int res.1)) res.2) : am_W (X_Model_hit (d + 3)) 39 [some (.ref 0), some (.int x1), some (.int x2), none] [.int y0] h Q :=
  (am_bd e).elim fun p hp => b_Model_hit_39 (d := (d + 2)) (k := c_Model_isWater (d := d + 1) hp.1 (t_Model_hit_52 hp.2 q))
theorem t_Model_hit_25 {d : Nat} {x1 : Int32} {x2 : Int32} {h : am_H} {Q : am_Q} {res : Int32 × am_H} (e : f_Model_hit_25 h x1 x2 = some res) (q : Q (some (.int res.1)) res.2) : am_W (X_Model_hit (d + 3)) 25 [some (.ref 0), some (.int x1), some (.int x2), none] [] h Q :=
  (am_bd e).elim fun p hp => b_Model_hit_25 (d := (d + 2)) (k := c_Model_drawnDown (d := d) hp.1 (t_Model_hit_39 hp.2 q))
theorem t_Model_hit_22 {d : Nat} {x1 : Int32} {x2 : Int32} {h : am_H} {Q : am_Q} {res : Int32 × am_H} (e : f_Model_hit_22 h = some res) (q : Q (some (.int res.1)) res.2) : am_W (X_Model_hit (d + 3)) 22 [some (.ref 0), some (.int x1), some (.int x2), none] [] h Q :=
  b_Model_hit_22 (d := (d + 3)) (q := (am_rIpi (v := (-5)) e q))
theorem t_Model_hit_19 {d : Nat} {x1 : Int32} {x2 : Int32} {y0 : Bool} {h : am_H} {Q : am_Q} {res : Int32 × am_H} (e : f_Model_hit_19 h x1 x2 y0 = some res) (q : Q (some (.int res.1)) res.2) : am_W (X_Model_hit (d + 3)) 19 [some (.ref 0), some (.int x1), some (.int x2), none] [.int (am_b y0)] h Q :=
  b_Model_hit_19 (d := (d + 3)) (kt := fun c => (t_Model_hit_25 (am_iff e (am_bz c)) q)) (kf := fun c => (t_Model_hit_22 (am_ift e (am_bn c)) q))
theorem t_Model_hit_11 {d : Nat} {x1 : Int32} {x2 : Int32} {h : am_H} {Q : am_Q} {res : Int32 × am_H} (e : f_Model_hit_11 h x1 x2 = some res) (q : Q (some (.int res.1)) res.2) : am_W (X_Model_hit (d + 3)) 11 [some (.ref 0), some (.int x1), some (.int x2), none] [] h Q :=
  (am_bd e).elim fun p hp => b_Model_hit_11 (d := (d + 2)) (k := c_Model_isGreen (d := d + 2) hp.1 (t_Model_hit_19 hp.2 q))
theorem t_Model_hit_9 {d : Nat} {x1 : Int32} {x2 : Int32} {h : am_H} {Q : am_Q} {res : Int32 × am_H} (e : f_Model_hit_9 h = some res) (q : Q (some (.int res.1)) res.2) : am_W (X_Model_hit (d + 3)) 9 [some (.ref 0), some (.int x1), some (.int x2), none] [] h Q :=
  b_Model_hit_9 (d := (d + 3)) (q := (am_rIpi (v := (-1)) e q))
theorem t_Model_hit_6 {d : Nat} {x1 : Int32} {x2 : Int32} {y0 : Bool} {h : am_H} {Q : am_Q} {res : Int32 × am_H} (e : f_Model_hit_6 h x1 x2 y0 = some res) (q : Q (some (.int res.1)) res.2) : am_W (X_Model_hit (d + 3)) 6 [some (.ref 0), some (.int x1), some (.int x2), none] [.int (am_b y0)] h Q :=
  b_Model_hit_6 (d := (d + 3)) (kt := fun c => (t_Model_hit_11 (am_ift e (am_bn c)) q)) (kf := fun c => (t_Model_hit_9 (am_iff e (am_bz c)) q))
theorem t_Model_hit_0 {d : Nat} {x1 : Int32} {x2 : Int32} {h : am_H} {Q : am_Q} {res : Int32 × am_H} (e : f_Model_hit h x1 x2 = some res) (q : Q (some (.int res.1)) res.2) : am_W (X_Model_hit (d + 3)) 0 [some (.ref 0), some (.int x1), some (.int x2), none] [] h Q :=
  b_Model_hit_0 (d := (d + 2)) (k := c_Model_isClub (d := d + 1) rfl (t_Model_hit_6 e q))
theorem c_Model_hit {d : Nat} {x1 : Int32} {x2 : Int32} {h : am_H} {Q : am_Q} {res : Int32 × am_H} (e : f_Model_hit h x1 x2 = some res) (q : Q (some (.int res.1)) res.2) : m_Model_hit (d + 3) [.ref 0, .int x1, .int x2] h Q :=
  e_Model_hit (t_Model_hit_0 e q)
theorem d_Model_putt_0 : decode prog_12_method_71_code 0 = .ok (.aload_n 0, 1) := by decide +kernel
theorem d_Model_putt_1 : decode prog_12_method_71_code 1 = .ok (.aload_n 0, 1) := by decide +kernel
theorem d_Model_putt_2 : decode prog_12_method_71_code 2 = .ok (.getfield 139, 3) := by decide +kernel
theorem d_Model_putt_5 : decode prog_12_method_71_code 5 = .ok (.invokevirtual 89, 3) := by decide +kernel
theorem d_Model_putt_8 : decode prog_12_method_71_code 8 = .ok (.ifCond .ne 6, 3) := by decide +kernel
theorem d_Model_putt_11 : decode prog_12_method_71_code 11 = .ok (.bipush (-5), 2) := by decide +kernel
theorem d_Model_putt_13 : decode prog_12_method_71_code 13 = .ok (.ireturn, 1) := by decide +kernel
theorem d_Model_putt_14 : decode prog_12_method_71_code 14 = .ok (.aload_n 0, 1) := by decide +kernel
theorem d_Model_putt_15 : decode prog_12_method_71_code 15 = .ok (.iload_n 1, 1) := by decide +kernel
theorem d_Model_putt_16 : decode prog_12_method_71_code 16 = .ok (.putfield 282, 3) := by decide +kernel
theorem d_Model_putt_19 : decode prog_12_method_71_code 19 = .ok (.aload_n 0, 1) := by decide +kernel
theorem d_Model_putt_20 : decode prog_12_method_71_code 20 = .ok (.aload_n 0, 1) := by decide +kernel
theorem d_Model_putt_21 : decode prog_12_method_71_code 21 = .ok (.getfield 139, 3) := by decide +kernel
theorem d_Model_putt_24 : decode prog_12_method_71_code 24 = .ok (.invokevirtual 294, 3) := by decide +kernel
theorem d_Model_putt_27 : decode prog_12_method_71_code 27 = .ok (.istore_n 2, 1) := by decide +kernel
theorem d_Model_putt_28 : decode prog_12_method_71_code 28 = .ok (.aload_n 0, 1) := by decide +kernel
theorem d_Model_putt_29 : decode prog_12_method_71_code 29 = .ok (.getfield 46, 3) := by decide +kernel
theorem d_Model_putt_32 : decode prog_12_method_71_code 32 = .ok (.iconst 0, 1) := by decide +kernel
theorem d_Model_putt_33 : decode prog_12_method_71_code 33 = .ok (.iaload, 1) := by decide +kernel
theorem d_Model_putt_34 : decode prog_12_method_71_code 34 = .ok (.iload_n 2, 1) := by decide +kernel
theorem d_Model_putt_35 : decode prog_12_method_71_code 35 = .ok (.iadd, 1) := by decide +kernel
theorem d_Model_putt_36 : decode prog_12_method_71_code 36 = .ok (.istore_n 3, 1) := by decide +kernel
theorem d_Model_putt_37 : decode prog_12_method_71_code 37 = .ok (.aload_n 0, 1) := by decide +kernel
theorem d_Model_putt_38 : decode prog_12_method_71_code 38 = .ok (.getfield 46, 3) := by decide +kernel
theorem d_Model_putt_41 : decode prog_12_method_71_code 41 = .ok (.iconst 0, 1) := by decide +kernel
theorem d_Model_putt_42 : decode prog_12_method_71_code 42 = .ok (.iconst 0, 1) := by decide +kernel
theorem d_Model_putt_43 : decode prog_12_method_71_code 43 = .ok (.iastore, 1) := by decide +kernel
theorem d_Model_putt_44 : decode prog_12_method_71_code 44 = .ok (.aload_n 0, 1) := by decide +kernel
theorem d_Model_putt_45 : decode prog_12_method_71_code 45 = .ok (.getfield 46, 3) := by decide +kernel
theorem d_Model_putt_48 : decode prog_12_method_71_code 48 = .ok (.iconst 1, 1) := by decide +kernel
theorem d_Model_putt_49 : decode prog_12_method_71_code 49 = .ok (.dup2, 1) := by decide +kernel
theorem d_Model_putt_50 : decode prog_12_method_71_code 50 = .ok (.iaload, 1) := by decide +kernel
theorem d_Model_putt_51 : decode prog_12_method_71_code 51 = .ok (.iconst 1, 1) := by decide +kernel
theorem d_Model_putt_52 : decode prog_12_method_71_code 52 = .ok (.iadd, 1) := by decide +kernel
theorem d_Model_putt_53 : decode prog_12_method_71_code 53 = .ok (.iastore, 1) := by decide +kernel
theorem d_Model_putt_54 : decode prog_12_method_71_code 54 = .ok (.aload_n 0, 1) := by decide +kernel
theorem d_Model_putt_55 : decode prog_12_method_71_code 55 = .ok (.getfield 46, 3) := by decide +kernel
theorem d_Model_putt_58 : decode prog_12_method_71_code 58 = .ok (.iconst 2, 1) := by decide +kernel
theorem d_Model_putt_59 : decode prog_12_method_71_code 59 = .ok (.dup2, 1) := by decide +kernel
theorem d_Model_putt_60 : decode prog_12_method_71_code 60 = .ok (.iaload, 1) := by decide +kernel
theorem d_Model_putt_61 : decode prog_12_method_71_code 61 = .ok (.iload_n 3, 1) := by decide +kernel
theorem d_Model_putt_62 : decode prog_12_method_71_code 62 = .ok (.iadd, 1) := by decide +kernel
theorem d_Model_putt_63 : decode prog_12_method_71_code 63 = .ok (.iastore, 1) := by decide +kernel
theorem d_Model_putt_64 : decode prog_12_method_71_code 64 = .ok (.aload_n 0, 1) := by decide +kernel
theorem d_Model_putt_65 : decode prog_12_method_71_code 65 = .ok (.getfield 46, 3) := by decide +kernel
theorem d_Model_putt_68 : decode prog_12_method_71_code 68 = .ok (.iconst 4, 1) := by decide +kernel
theorem d_Model_putt_69 : decode prog_12_method_71_code 69 = .ok (.aload_n 0, 1) := by decide +kernel
theorem d_Model_putt_70 : decode prog_12_method_71_code 70 = .ok (.getfield 46, 3) := by decide +kernel
theorem d_Model_putt_73 : decode prog_12_method_71_code 73 = .ok (.iconst 4, 1) := by decide +kernel
theorem d_Model_putt_74 : decode prog_12_method_71_code 74 = .ok (.iaload, 1) := by decide +kernel
theorem d_Model_putt_75 : decode prog_12_method_71_code 75 = .ok (.ifCond .eq 13, 3) := by decide +kernel
theorem d_Model_putt_78 : decode prog_12_method_71_code 78 = .ok (.iload_n 3, 1) := by decide +kernel
theorem d_Model_putt_79 : decode prog_12_method_71_code 79 = .ok (.aload_n 0, 1) := by decide +kernel
theorem d_Model_putt_80 : decode prog_12_method_71_code 80 = .ok (.getfield 46, 3) := by decide +kernel
theorem d_Model_putt_83 : decode prog_12_method_71_code 83 = .ok (.iconst 4, 1) := by decide +kernel
theorem d_Model_putt_84 : decode prog_12_method_71_code 84 = .ok (.iaload, 1) := by decide +kernel
theorem d_Model_putt_85 : decode prog_12_method_71_code 85 = .ok (.if_icmp .ge 7, 3) := by decide +kernel
theorem d_Model_putt_88 : decode prog_12_method_71_code 88 = .ok (.iload_n 3, 1) := by decide +kernel
theorem d_Model_putt_89 : decode prog_12_method_71_code 89 = .ok (.goto 9, 3) := by decide +kernel
theorem d_Model_putt_92 : decode prog_12_method_71_code 92 = .ok (.aload_n 0, 1) := by decide +kernel
theorem d_Model_putt_93 : decode prog_12_method_71_code 93 = .ok (.getfield 46, 3) := by decide +kernel
theorem d_Model_putt_96 : decode prog_12_method_71_code 96 = .ok (.iconst 4, 1) := by decide +kernel
theorem d_Model_putt_97 : decode prog_12_method_71_code 97 = .ok (.iaload, 1) := by decide +kernel
theorem d_Model_putt_98 : decode prog_12_method_71_code 98 = .ok (.iastore, 1) := by decide +kernel
theorem d_Model_putt_99 : decode prog_12_method_71_code 99 = .ok (.aload_n 0, 1) := by decide +kernel
theorem d_Model_putt_100 : decode prog_12_method_71_code 100 = .ok (.iconst 0, 1) := by decide +kernel
theorem d_Model_putt_101 : decode prog_12_method_71_code 101 = .ok (.putfield 139, 3) := by decide +kernel
theorem d_Model_putt_104 : decode prog_12_method_71_code 104 = .ok (.iload_n 2, 1) := by decide +kernel
theorem d_Model_putt_105 : decode prog_12_method_71_code 105 = .ok (.ireturn, 1) := by decide +kernel
theorem b_Model_putt_0 {d : Nat} {x1 : Int32} {h : am_H} {Q : am_Q} (k : m_Model_isGreen d [.ref 0, .int (h.1 0 22)] h (fun r hh => am_W (X_Model_putt (d + 1)) 8 [some (.ref 0), some (.int x1), none, none] (r.toList ++ []) hh Q)) : am_W (X_Model_putt (d + 1)) 0 [some (.ref 0), some (.int x1), none, none] [] h Q :=
  am_aload_n d_Model_putt_0 rfl (i := 0) rfl <|
    am_aload_n d_Model_putt_1 rfl (i := 0) rfl <|
    am_getI (ci := 10) (i := 22) rfl rfl rfl (Nat.le_of_ble_eq_true rfl) w_1340 d_Model_putt_2 <|
    am_callV (vs := [.int (h.1 0 22)]) (st := []) (k := 0) (ci := 10) rfl d_Model_putt_5 rfl rfl w_1550 w_1552 w_49 w_94 w_1553 p_Model_isGreen (Nat.le_of_ble_eq_true rfl) (Nat.le_of_ble_eq_true rfl) rfl k
theorem b_Model_putt_8 {d : Nat} {x1 : Int32} {y0 : Bool} {h : am_H} {Q : am_Q} (kt : ¬ (am_b y0) = 0 → am_W (X_Model_putt d) 14 [some (.ref 0), some (.int x1), none, none] [] h Q) (kf : (am_b y0) = 0 → am_W (X_Model_putt d) 11 [some (.ref 0), some (.int x1), none, none] [] h Q) : am_W (X_Model_putt d) 8 [some (.ref 0), some (.int x1), none, none] [.int (am_b y0)] h Q :=
  am_if_ne (tgt := 14) d_Model_putt_8 (by decide) kt kf
theorem b_Model_putt_11 {d : Nat} {x1 : Int32} {h : am_H} {Q : am_Q} (q : Q (some (.int (-5))) h) : am_W (X_Model_putt d) 11 [some (.ref 0), some (.int x1), none, none] [] h Q :=
  am_bipush (v := (-5)) d_Model_putt_11 (by decide) <|
    am_iret rfl d_Model_putt_13 q
theorem b_Model_putt_14 {d : Nat} {x1 : Int32} {h : am_H} {Q : am_Q} (k : m_Model_drawnPutts d [.ref 0, .int ((am_pI h 0 21 x1).1 0 22)] (am_pI h 0 21 x1) (fun r hh => am_W (X_Model_putt (d + 1)) 27 [some (.ref 0), some (.int x1), none, none] (r.toList ++ []) hh Q)) : am_W (X_Model_putt (d + 1)) 14 [some (.ref 0), some (.int x1), none, none] [] h Q :=
  am_aload_n d_Model_putt_14 rfl (i := 0) rfl <|
    am_iload_n d_Model_putt_15 rfl (i := 1) rfl <|
    am_putI (ci := 10) (i := 21) rfl rfl rfl (Nat.le_of_ble_eq_true rfl) w_1339 rfl rfl rfl d_Model_putt_16 <|
    am_aload_n d_Model_putt_19 rfl (i := 0) rfl <|
    am_aload_n d_Model_putt_20 rfl (i := 0) rfl <|
    am_getI (ci := 10) (i := 22) rfl rfl rfl (Nat.le_of_ble_eq_true rfl) w_1340 d_Model_putt_21 <|
    am_callV (vs := [.int ((am_pI h 0 21 x1).1 0 22)]) (st := []) (k := 0) (ci := 10) rfl d_Model_putt_24 rfl rfl w_1709 w_1711 w_72 w_94 w_1712 p_Model_drawnPutts (Nat.le_of_ble_eq_true rfl) (Nat.le_of_ble_eq_true rfl) rfl k
theorem b_Model_putt_27 {d : Nat} {x1 : Int32} {y0 : Int32} {h : am_H} {Q : am_Q} (kt : ((am_pI (am_pI (am_pI h 12 (0 : Int32).toNatClampNeg 0) 12 (1 : Int32).toNatClampNeg (((am_pI h 12 (0 : Int32).toNatClampNeg 0).1 12 (1 : Int32).toNatClampNeg) + 1)) 12 (2 : Int32).toNatClampNeg (((am_pI (am_pI h 12 (0 : Int32).toNatClampNeg 0) 12 (1 : Int32).toNatClampNeg (((am_pI h 12 (0 : Int32).toNatClampNeg 0).1 12 (1 : Int32).toNatClampNeg) + 1)).1 12 (2 : Int32).toNatClampNeg) + ((h.1 12 (0 : Int32).toNatClampNeg) + y0))).1 12 (4 : Int32).toNatClampNeg) = 0 → am_W (X_Model_putt d) 88 [some (.ref 0), some (.int x1), some (.int y0), some (.int ((h.1 12 (0 : Int32).toNatClampNeg) + y0))] [.int 4, .ref 12] (am_pI (am_pI (am_pI h 12 (0 : Int32).toNatClampNeg 0) 12 (1 : Int32).toNatClampNeg (((am_pI h 12 (0 : Int32).toNatClampNeg 0).1 12 (1 : Int32).toNatClampNeg) + 1)) 12 (2 : Int32).toNatClampNeg (((am_pI (am_pI h 12 (0 : Int32).toNatClampNeg 0) 12 (1 : Int32).toNatClampNeg (((am_pI h 12 (0 : Int32).toNatClampNeg 0).1 12 (1 : Int32).toNatClampNeg) + 1)).1 12 (2 : Int32).toNatClampNeg) + ((h.1 12 (0 : Int32).toNatClampNeg) + y0))) Q) (kf : ¬ ((am_pI (am_pI (am_pI h 12 (0 : Int32).toNatClampNeg 0) 12 (1 : Int32).toNatClampNeg (((am_pI h 12 (0 : Int32).toNatClampNeg 0).1 12 (1 : Int32).toNatClampNeg) + 1)) 12 (2 : Int32).toNatClampNeg (((am_pI (am_pI h 12 (0 : Int32).toNatClampNeg 0) 12 (1 : Int32).toNatClampNeg (((am_pI h 12 (0 : Int32).toNatClampNeg 0).1 12 (1 : Int32).toNatClampNeg) + 1)).1 12 (2 : Int32).toNatClampNeg) + ((h.1 12 (0 : Int32).toNatClampNeg) + y0))).1 12 (4 : Int32).toNatClampNeg) = 0 → am_W (X_Model_putt d) 78 [some (.ref 0), some (.int x1), some (.int y0), some (.int ((h.1 12 (0 : Int32).toNatClampNeg) + y0))] [.int 4, .ref 12] (am_pI (am_pI (am_pI h 12 (0 : Int32).toNatClampNeg 0) 12 (1 : Int32).toNatClampNeg (((am_pI h 12 (0 : Int32).toNatClampNeg 0).1 12 (1 : Int32).toNatClampNeg) + 1)) 12 (2 : Int32).toNatClampNeg (((am_pI (am_pI h 12 (0 : Int32).toNatClampNeg 0) 12 (1 : Int32).toNatClampNeg (((am_pI h 12 (0 : Int32).toNatClampNeg 0).1 12 (1 : Int32).toNatClampNeg) + 1)).1 12 (2 : Int32).toNatClampNeg) + ((h.1 12 (0 : Int32).toNatClampNeg) + y0))) Q) : am_W (X_Model_putt d) 27 [some (.ref 0), some (.int x1), none, none] [.int y0] h Q :=
  am_istore_n (ls' := [some (.ref 0), some (.int x1), some (.int y0), none]) d_Model_putt_27 rfl (Nat.le_of_ble_eq_true rfl) rfl <|
    am_aload_n d_Model_putt_28 rfl (i := 0) rfl <|
    am_getR (ci := 10) (i := 23) rfl rfl rfl (Nat.le_of_ble_eq_true rfl) w_1341 d_Model_putt_29 <|
    am_iconst (v := 0) d_Model_putt_32 (by decide) <|
    am_iald rfl (am_vin (by decide)) d_Model_putt_33 <|
    am_iload_n d_Model_putt_34 rfl (i := 2) rfl <|
    am_iadd d_Model_putt_35 <|
    am_istore_n (ls' := [some (.ref 0), some (.int x1), some (.int y0), some (.int ((h.1 12 (0 : Int32).toNatClampNeg) + y0))]) d_Model_putt_36 rfl (Nat.le_of_ble_eq_true rfl) rfl <|
    am_aload_n d_Model_putt_37 rfl (i := 0) rfl <|
    am_getR (ci := 10) (i := 23) rfl rfl rfl (Nat.le_of_ble_eq_true rfl) w_1341 d_Model_putt_38 <|
    am_iconst (v := 0) d_Model_putt_41 (by decide) <|
    am_iconst (v := 0) d_Model_putt_42 (by decide) <|
    am_iast rfl (am_vin (by decide)) d_Model_putt_43 <|
    am_aload_n d_Model_putt_44 rfl (i := 0) rfl <|
    am_getR (ci := 10) (i := 23) rfl rfl rfl (Nat.le_of_ble_eq_true rfl) w_1341 d_Model_putt_45 <|
    am_iconst (v := 1) d_Model_putt_48 (by decide) <|
    am_dup2RI d_Model_putt_49 <|
    am_iald rfl (am_vin (by decide)) d_Model_putt_50 <|
    am_iconst (v := 1) d_Model_putt_51 (by decide) <|
    am_iadd d_Model_putt_52 <|
    am_iast rfl (am_vin (by decide)) d_Model_putt_53 <|
    am_aload_n d_Model_putt_54 rfl (i := 0) rfl <|
    am_getR (ci := 10) (i := 23) rfl rfl rfl (Nat.le_of_ble_eq_true rfl) w_1341 d_Model_putt_55 <|
    am_iconst (v := 2) d_Model_putt_58 (by decide) <|
    am_dup2RI d_Model_putt_59 <|
    am_iald rfl (am_vin (by decide)) d_Model_putt_60 <|
    am_iload_n d_Model_putt_61 rfl (i := 3) rfl <|
    am_iadd d_Model_putt_62 <|
    am_iast rfl (am_vin (by decide)) d_Model_putt_63 <|
    am_aload_n d_Model_putt_64 rfl (i := 0) rfl <|
    am_getR (ci := 10) (i := 23) rfl rfl rfl (Nat.le_of_ble_eq_true rfl) w_1341 d_Model_putt_65 <|
    am_iconst (v := 4) d_Model_putt_68 (by decide) <|
    am_aload_n d_Model_putt_69 rfl (i := 0) rfl <|
    am_getR (ci := 10) (i := 23) rfl rfl rfl (Nat.le_of_ble_eq_true rfl) w_1341 d_Model_putt_70 <|
    am_iconst (v := 4) d_Model_putt_73 (by decide) <|
    am_iald rfl (am_vin (by decide)) d_Model_putt_74 <|
    am_if_eq (tgt := 88) d_Model_putt_75 (by decide) kt kf
theorem b_Model_putt_78 {d : Nat} {x1 : Int32} {x2 : Int32} {x3 : Int32} {y1 : Int32} {h : am_H} {Q : am_Q} (kt : (h.1 12 (4 : Int32).toNatClampNeg) ≤ x3 → am_W (X_Model_putt d) 92 [some (.ref 0), some (.int x1), some (.int x2), some (.int x3)] [.int y1, .ref 12] h Q) (kf : ¬ (h.1 12 (4 : Int32).toNatClampNeg) ≤ x3 → am_W (X_Model_putt d) 88 [some (.ref 0), some (.int x1), some (.int x2), some (.int x3)] [.int y1, .ref 12] h Q) : am_W (X_Model_putt d) 78 [some (.ref 0), some (.int x1), some (.int x2), some (.int x3)] [.int y1, .ref 12] h Q :=
  am_iload_n d_Model_putt_78 rfl (i := 3) rfl <|
    am_aload_n d_Model_putt_79 rfl (i := 0) rfl <|
    am_getR (ci := 10) (i := 23) rfl rfl rfl (Nat.le_of_ble_eq_true rfl) w_1341 d_Model_putt_80 <|
    am_iconst (v := 4) d_Model_putt_83 (by decide) <|
    am_iald rfl (am_vin (by decide)) d_Model_putt_84 <|
    am_icmp_ge (tgt := 92) d_Model_putt_85 (by decide) kt kf
theorem b_Model_putt_88 {d : Nat} {x1 : Int32} {x2 : Int32} {x3 : Int32} {y1 : Int32} {h : am_H} {Q : am_Q} (k : am_W (X_Model_putt d) 98 [some (.ref 0), some (.int x1), some (.int x2), some (.int x3)] [.int x3, .int y1, .ref 12] h Q) : am_W (X_Model_putt d) 88 [some (.ref 0), some (.int x1), some (.int x2), some (.int x3)] [.int y1, .ref 12] h Q :=
  am_iload_n d_Model_putt_88 rfl (i := 3) rfl <|
    am_goto (tgt := 98) d_Model_putt_89 (by decide) k
theorem b_Model_putt_92 {d : Nat} {x1 : Int32} {x2 : Int32} {x3 : Int32} {y1 : Int32} {h : am_H} {Q : am_Q} (k : am_W (X_Model_putt d) 98 [some (.ref 0), some (.int x1), some (.int x2), some (.int x3)] [.int (h.1 12 (4 : Int32).toNatClampNeg), .int y1, .ref 12] h Q) : am_W (X_Model_putt d) 92 [some (.ref 0), some (.int x1), some (.int x2), some (.int x3)] [.int y1, .ref 12] h Q :=
  am_aload_n d_Model_putt_92 rfl (i := 0) rfl <|
    am_getR (ci := 10) (i := 23) rfl rfl rfl (Nat.le_of_ble_eq_true rfl) w_1341 d_Model_putt_93 <|
    am_iconst (v := 4) d_Model_putt_96 (by decide) <|
    am_iald rfl (am_vin (by decide)) d_Model_putt_97 <|
    k
theorem b_Model_putt_98 {d : Nat} {x1 : Int32} {x2 : Int32} {x3 : Int32} {y2 : Int32} {y1 : Int32} {h : am_H} {Q : am_Q} (q0 : vp_in y1 5) (q : Q (some (.int x2)) (am_pI (am_pI h 12 y1.toNatClampNeg y2) 0 22 0)) : am_W (X_Model_putt d) 98 [some (.ref 0), some (.int x1), some (.int x2), some (.int x3)] [.int y2, .int y1, .ref 12] h Q :=
  am_iast rfl q0 d_Model_putt_98 <|
    am_aload_n d_Model_putt_99 rfl (i := 0) rfl <|
    am_iconst (v := 0) d_Model_putt_100 (by decide) <|
    am_putI (ci := 10) (i := 22) rfl rfl rfl (Nat.le_of_ble_eq_true rfl) w_1340 rfl rfl rfl d_Model_putt_101 <|
    am_iload_n d_Model_putt_104 rfl (i := 2) rfl <|
    am_iret rfl d_Model_putt_105 q
theorem t_Model_putt_98 {d : Nat} {x1 : Int32} {x2 : Int32} {x3 : Int32} {y2 : Int32} {y1 : Int32} {h : am_H} {Q : am_Q} {res : Int32 × am_H} (e : f_Model_putt_98 h x2 y2 y1 = some res) (q : Q (some (.int res.1)) res.2) : am_W (X_Model_putt (d + 2)) 98 [some (.ref 0), some (.int x1), some (.int x2), some (.int x3)] [.int y2, .int y1, .ref 12] h Q :=
  b_Model_putt_98 (d := (d + 2)) (q0 := (am_okv (am_gd e))) (q := (am_rIpi (v := x2) (am_ga e) q))
theorem t_Model_putt_88 {d : Nat} {x1 : Int32} {x2 : Int32} {x3 : Int32} {y1 : Int32} {h : am_H} {Q : am_Q} {res : Int32 × am_H} (e : f_Model_putt_88 h x2 x3 y1 = some res) (q : Q (some (.int res.1)) res.2) : am_W (X_Model_putt (d + 2)) 88 [some (.ref 0), some (.int x1), some (.int x2), some (.int x3)] [.int y1, .ref 12] h Q :=
  b_Model_putt_88 (d := (d + 2)) (k := (t_Model_putt_98 e q))
theorem t_Model_putt_92 {d : Nat} {x1 : Int32} {x2 : Int32} {x3 : Int32} {y1 : Int32} {h : am_H} {Q : am_Q} {res : Int32 × am_H} (e : f_Model_putt_92 h x2 y1 = some res) (q : Q (some (.int res.1)) res.2) : am_W (X_Model_putt (d + 2)) 92 [some (.ref 0), some (.int x1), some (.int x2), some (.int x3)] [.int y1, .ref 12] h Q :=
  b_Model_putt_92 (d := (d + 2)) (k := (t_Model_putt_98 e q))
theorem t_Model_putt_78 {d : Nat} {x1 : Int32} {x2 : Int32} {x3 : Int32} {y1 : Int32} {h : am_H} {Q : am_Q} {res : Int32 × am_H} (e : f_Model_putt_78 h x2 x3 y1 = some res) (q : Q (some (.int res.1)) res.2) : am_W (X_Model_putt (d + 2)) 78 [some (.ref 0), some (.int x1), some (.int x2), some (.int x3)] [.int y1, .ref 12] h Q :=
  b_Model_putt_78 (d := (d + 2)) (kt := fun c => (t_Model_putt_92 (am_ift e c) q)) (kf := fun c => (t_Model_putt_88 (am_ife e c) q))
theorem t_Model_putt_27 {d : Nat} {x1 : Int32} {y0 : Int32} {h : am_H} {Q : am_Q} {res : Int32 × am_H} (e : f_Model_putt_27 h y0 = some res) (q : Q (some (.int res.1)) res.2) : am_W (X_Model_putt (d + 2)) 27 [some (.ref 0), some (.int x1), none, none] [.int y0] h Q :=
  b_Model_putt_27 (d := (d + 2)) (kt := fun c => (t_Model_putt_88 (am_ift e c) q)) (kf := fun c => (t_Model_putt_78 (am_ife e c) q))
theorem t_Model_putt_14 {d : Nat} {x1 : Int32} {h : am_H} {Q : am_Q} {res : Int32 × am_H} (e : f_Model_putt_14 h x1 = some res) (q : Q (some (.int res.1)) res.2) : am_W (X_Model_putt (d + 2)) 14 [some (.ref 0), some (.int x1), none, none] [] h Q :=
  (am_bd e).elim fun p hp => b_Model_putt_14 (d := (d + 1)) (k := c_Model_drawnPutts (d := d) hp.1 (t_Model_putt_27 hp.2 q))
theorem t_Model_putt_11 {d : Nat} {x1 : Int32} {h : am_H} {Q : am_Q} {res : Int32 × am_H} (e : f_Model_putt_11 h = some res) (q : Q (some (.int res.1)) res.2) : am_W (X_Model_putt (d + 2)) 11 [some (.ref 0), some (.int x1), none, none] [] h Q :=
  b_Model_putt_11 (d := (d + 2)) (q := (am_rIpi (v := (-5)) e q))
theorem t_Model_putt_8 {d : Nat} {x1 : Int32} {y0 : Bool} {h : am_H} {Q : am_Q} {res : Int32 × am_H} (e : f_Model_putt_8 h x1 y0 = some res) (q : Q (some (.int res.1)) res.2) : am_W (X_Model_putt (d + 2)) 8 [some (.ref 0), some (.int x1), none, none] [.int (am_b y0)] h Q :=
  b_Model_putt_8 (d := (d + 2)) (kt := fun c => (t_Model_putt_14 (am_ift e (am_bn c)) q)) (kf := fun c => (t_Model_putt_11 (am_iff e (am_bz c)) q))
theorem t_Model_putt_0 {d : Nat} {x1 : Int32} {h : am_H} {Q : am_Q} {res : Int32 × am_H} (e : f_Model_putt h x1 = some res) (q : Q (some (.int res.1)) res.2) : am_W (X_Model_putt (d + 2)) 0 [some (.ref 0), some (.int x1), none, none] [] h Q :=
  (am_bd e).elim fun p hp => b_Model_putt_0 (d := (d + 1)) (k := c_Model_isGreen (d := d + 1) hp.1 (t_Model_putt_8 hp.2 q))
theorem c_Model_putt {d : Nat} {x1 : Int32} {h : am_H} {Q : am_Q} {res : Int32 × am_H} (e : f_Model_putt h x1 = some res) (q : Q (some (.int res.1)) res.2) : m_Model_putt (d + 2) [.ref 0, .int x1] h Q :=
  e_Model_putt (t_Model_putt_0 e q)
theorem d_Model_led_0 : decode prog_12_method_72_code 0 = .ok (.iload_n 1, 1) := by decide +kernel
theorem d_Model_led_1 : decode prog_12_method_72_code 1 = .ok (.i2l, 1) := by decide +kernel
theorem d_Model_led_2 : decode prog_12_method_72_code 2 = .ok (.lconst 0, 1) := by decide +kernel
theorem d_Model_led_3 : decode prog_12_method_72_code 3 = .ok (.ldc2_w 117, 3) := by decide +kernel
theorem d_Model_led_6 : decode prog_12_method_72_code 6 = .ok (.invokestatic 83, 3) := by decide +kernel
theorem d_Model_led_9 : decode prog_12_method_72_code 9 = .ok (.ifCond .eq 12, 3) := by decide +kernel
theorem d_Model_led_12 : decode prog_12_method_72_code 12 = .ok (.aload_n 0, 1) := by decide +kernel
theorem d_Model_led_13 : decode prog_12_method_72_code 13 = .ok (.getfield 46, 3) := by decide +kernel
theorem d_Model_led_16 : decode prog_12_method_72_code 16 = .ok (.iload_n 1, 1) := by decide +kernel
theorem d_Model_led_17 : decode prog_12_method_72_code 17 = .ok (.iaload, 1) := by decide +kernel
theorem d_Model_led_18 : decode prog_12_method_72_code 18 = .ok (.goto 4, 3) := by decide +kernel
theorem d_Model_led_21 : decode prog_12_method_72_code 21 = .ok (.iconst (-1), 1) := by decide +kernel
theorem d_Model_led_22 : decode prog_12_method_72_code 22 = .ok (.ireturn, 1) := by decide +kernel
theorem b_Model_led_0 {d : Nat} {x1 : Int32} {h : am_H} {Q : am_Q} (k : m_Model_within d [.long x1.toInt64, .long 0, .long 4] h (fun r hh => am_W (X_Model_led (d + 1)) 9 [some (.ref 0), some (.int x1)] (r.toList ++ []) hh Q)) : am_W (X_Model_led (d + 1)) 0 [some (.ref 0), some (.int x1)] [] h Q :=
  am_iload_n d_Model_led_0 rfl (i := 1) rfl <|
    am_i2l d_Model_led_1 <|
    am_lconst (v := 0) d_Model_led_2 (by decide) <|
    am_ldc2 (v := 4) d_Model_led_3 w_1476 <|
    am_callS (vs := [.long x1.toInt64, .long 0, .long 4]) (st := []) rfl d_Model_led_6 w_1443 w_1444 w_94 w_1445 p_Model_within (Nat.le_of_ble_eq_true rfl) (Nat.le_of_ble_eq_true rfl) rfl k
theorem b_Model_led_9 {d : Nat} {x1 : Int32} {y0 : Bool} {h : am_H} {Q : am_Q} (kt : (am_b y0) = 0 → am_W (X_Model_led d) 21 [some (.ref 0), some (.int x1)] [] h Q) (kf : ¬ (am_b y0) = 0 → am_W (X_Model_led d) 12 [some (.ref 0), some (.int x1)] [] h Q) : am_W (X_Model_led d) 9 [some (.ref 0), some (.int x1)] [.int (am_b y0)] h Q :=
  am_if_eq (tgt := 21) d_Model_led_9 (by decide) kt kf
theorem b_Model_led_12 {d : Nat} {x1 : Int32} {h : am_H} {Q : am_Q} (q0 : vp_in x1 5) (q : Q (some (.int (h.1 12 x1.toNatClampNeg))) h) : am_W (X_Model_led d) 12 [some (.ref 0), some (.int x1)] [] h Q :=
  am_aload_n d_Model_led_12 rfl (i := 0) rfl <|
    am_getR (ci := 10) (i := 23) rfl rfl rfl (Nat.le_of_ble_eq_true rfl) w_1341 d_Model_led_13 <|
    am_iload_n d_Model_led_16 rfl (i := 1) rfl <|
    am_iald rfl q0 d_Model_led_17 <|
    am_goto (tgt := 22) d_Model_led_18 (by decide) <|
    am_iret rfl d_Model_led_22 q
theorem b_Model_led_21 {d : Nat} {x1 : Int32} {h : am_H} {Q : am_Q} (q : Q (some (.int (-1))) h) : am_W (X_Model_led d) 21 [some (.ref 0), some (.int x1)] [] h Q :=
  am_iconst (v := (-1)) d_Model_led_21 (by decide) <|
    am_iret rfl d_Model_led_22 q
theorem t_Model_led_21 {d : Nat} {x1 : Int32} {h : am_H} {Q : am_Q} {res : Int32} (e : f_Model_led_21 h = some res) (q : Q (some (.int res)) h) : am_W (X_Model_led (d + 1)) 21 [some (.ref 0), some (.int x1)] [] h Q :=
  b_Model_led_21 (d := (d + 1)) (q := (am_rIp (v := (-1)) e q))
theorem t_Model_led_12 {d : Nat} {x1 : Int32} {h : am_H} {Q : am_Q} {res : Int32} (e : f_Model_led_12 h x1 = some res) (q : Q (some (.int res)) h) : am_W (X_Model_led (d + 1)) 12 [some (.ref 0), some (.int x1)] [] h Q :=
  b_Model_led_12 (d := (d + 1)) (q0 := (am_okv (am_gd e))) (q := (am_rIp (v := (h.1 12 x1.toNatClampNeg)) (am_ga e) q))
theorem t_Model_led_9 {d : Nat} {x1 : Int32} {y0 : Bool} {h : am_H} {Q : am_Q} {res : Int32} (e : f_Model_led_9 h x1 y0 = some res) (q : Q (some (.int res)) h) : am_W (X_Model_led (d + 1)) 9 [some (.ref 0), some (.int x1)] [.int (am_b y0)] h Q :=
  b_Model_led_9 (d := (d + 1)) (kt := fun c => (t_Model_led_21 (am_iff e (am_bz c)) q)) (kf := fun c => (t_Model_led_12 (am_ift e (am_bn c)) q))
theorem t_Model_led_0 {d : Nat} {x1 : Int32} {h : am_H} {Q : am_Q} {res : Int32} (e : f_Model_led h x1 = some res) (q : Q (some (.int res)) h) : am_W (X_Model_led (d + 1)) 0 [some (.ref 0), some (.int x1)] [] h Q :=
  b_Model_led_0 (d := d) (k := c_Model_within (d := d) rfl (t_Model_led_9 e q))
theorem c_Model_led {d : Nat} {x1 : Int32} {h : am_H} {Q : am_Q} {res : Int32} (e : f_Model_led h x1 = some res) (q : Q (some (.int res)) h) : m_Model_led (d + 1) [.ref 0, .int x1] h Q :=
  e_Model_led (t_Model_led_0 e q)
theorem d_Model_image_0 : decode prog_12_method_73_code 0 = .ok (.aload_n 0, 1) := by decide +kernel
theorem d_Model_image_1 : decode prog_12_method_73_code 1 = .ok (.iconst 1, 1) := by decide +kernel
theorem d_Model_image_2 : decode prog_12_method_73_code 2 = .ok (.putfield 297, 3) := by decide +kernel
theorem d_Model_image_5 : decode prog_12_method_73_code 5 = .ok (.aload_n 0, 1) := by decide +kernel
theorem d_Model_image_6 : decode prog_12_method_73_code 6 = .ok (.getfield 49, 3) := by decide +kernel
theorem d_Model_image_9 : decode prog_12_method_73_code 9 = .ok (.iconst 5, 1) := by decide +kernel
theorem d_Model_image_10 : decode prog_12_method_73_code 10 = .ok (.aload_n 0, 1) := by decide +kernel
theorem d_Model_image_11 : decode prog_12_method_73_code 11 = .ok (.getfield 139, 3) := by decide +kernel
theorem d_Model_image_14 : decode prog_12_method_73_code 14 = .ok (.iastore, 1) := by decide +kernel
theorem d_Model_image_15 : decode prog_12_method_73_code 15 = .ok (.iconst 0, 1) := by decide +kernel
theorem d_Model_image_16 : decode prog_12_method_73_code 16 = .ok (.istore_n 1, 1) := by decide +kernel
theorem d_Model_image_17 : decode prog_12_method_73_code 17 = .ok (.iload_n 1, 1) := by decide +kernel
theorem d_Model_image_18 : decode prog_12_method_73_code 18 = .ok (.iconst 5, 1) := by decide +kernel
theorem d_Model_image_19 : decode prog_12_method_73_code 19 = .ok (.if_icmp .ge 21, 3) := by decide +kernel
theorem d_Model_image_22 : decode prog_12_method_73_code 22 = .ok (.aload_n 0, 1) := by decide +kernel
theorem d_Model_image_23 : decode prog_12_method_73_code 23 = .ok (.getfield 49, 3) := by decide +kernel
theorem d_Model_image_26 : decode prog_12_method_73_code 26 = .ok (.iload_n 1, 1) := by decide +kernel
theorem d_Model_image_27 : decode prog_12_method_73_code 27 = .ok (.aload_n 0, 1) := by decide +kernel
theorem d_Model_image_28 : decode prog_12_method_73_code 28 = .ok (.getfield 46, 3) := by decide +kernel
theorem d_Model_image_31 : decode prog_12_method_73_code 31 = .ok (.iload_n 1, 1) := by decide +kernel
theorem d_Model_image_32 : decode prog_12_method_73_code 32 = .ok (.iaload, 1) := by decide +kernel
theorem d_Model_image_33 : decode prog_12_method_73_code 33 = .ok (.iastore, 1) := by decide +kernel
theorem d_Model_image_34 : decode prog_12_method_73_code 34 = .ok (.iinc 1 1, 3) := by decide +kernel
theorem d_Model_image_37 : decode prog_12_method_73_code 37 = .ok (.goto (-20), 3) := by decide +kernel
theorem d_Model_image_40 : decode prog_12_method_73_code 40 = .ok (.aload_n 0, 1) := by decide +kernel
theorem d_Model_image_41 : decode prog_12_method_73_code 41 = .ok (.getfield 139, 3) := by decide +kernel
theorem d_Model_image_44 : decode prog_12_method_73_code 44 = .ok (.ireturn, 1) := by decide +kernel
theorem b_Model_image_0 {d : Nat} {h : am_H} {Q : am_Q} (k : am_W (X_Model_image d) 17 [some (.ref 0), some (.int 0)] [] (am_pI (am_pI h 0 24 1) 13 (5 : Int32).toNatClampNeg ((am_pI h 0 24 1).1 0 22)) Q) : am_W (X_Model_image d) 0 [some (.ref 0), none] [] h Q :=
  am_aload_n d_Model_image_0 rfl (i := 0) rfl <|
    am_iconst (v := 1) d_Model_image_1 (by decide) <|
    am_putI (ci := 10) (i := 24) rfl rfl rfl (Nat.le_of_ble_eq_true rfl) w_1342 rfl (by decide) (by decide) d_Model_image_2 <|
    am_aload_n d_Model_image_5 rfl (i := 0) rfl <|
    am_getR (ci := 10) (i := 25) rfl rfl rfl (Nat.le_of_ble_eq_true rfl) w_1343 d_Model_image_6 <|
    am_iconst (v := 5) d_Model_image_9 (by decide) <|
    am_aload_n d_Model_image_10 rfl (i := 0) rfl <|
    am_getI (ci := 10) (i := 22) rfl rfl rfl (Nat.le_of_ble_eq_true rfl) w_1340 d_Model_image_11 <|
    am_iast rfl (am_vin (by decide)) d_Model_image_14 <|
    am_iconst (v := 0) d_Model_image_15 (by decide) <|
    am_istore_n (ls' := [some (.ref 0), some (.int 0)]) d_Model_image_16 rfl (Nat.le_of_ble_eq_true rfl) rfl <|
    k
theorem b_Model_image_17 {d : Nat} {x1 : Int32} {h : am_H} {Q : am_Q} (kt : 5 ≤ x1 → am_W (X_Model_image d) 40 [some (.ref 0), some (.int x1)] [] h Q) (kf : ¬ 5 ≤ x1 → am_W (X_Model_image d) 22 [some (.ref 0), some (.int x1)] [] h Q) : am_W (X_Model_image d) 17 [some (.ref 0), some (.int x1)] [] h Q :=
  am_iload_n d_Model_image_17 rfl (i := 1) rfl <|
    am_iconst (v := 5) d_Model_image_18 (by decide) <|
    am_icmp_ge (tgt := 40) d_Model_image_19 (by decide) kt kf
theorem b_Model_image_22 {d : Nat} {x1 : Int32} {h : am_H} {Q : am_Q} (q0 : vp_in x1 5) (q1 : vp_in x1 6) (k : am_W (X_Model_image d) 17 [some (.ref 0), some (.int (x1 + 1))] [] (am_pI h 13 x1.toNatClampNeg (h.1 12 x1.toNatClampNeg)) Q) : am_W (X_Model_image d) 22 [some (.ref 0), some (.int x1)] [] h Q :=
  am_aload_n d_Model_image_22 rfl (i := 0) rfl <|
    am_getR (ci := 10) (i := 25) rfl rfl rfl (Nat.le_of_ble_eq_true rfl) w_1343 d_Model_image_23 <|
    am_iload_n d_Model_image_26 rfl (i := 1) rfl <|
    am_aload_n d_Model_image_27 rfl (i := 0) rfl <|
    am_getR (ci := 10) (i := 23) rfl rfl rfl (Nat.le_of_ble_eq_true rfl) w_1341 d_Model_image_28 <|
    am_iload_n d_Model_image_31 rfl (i := 1) rfl <|
    am_iald rfl q0 d_Model_image_32 <|
    am_iast rfl q1 d_Model_image_33 <|
    am_iinc (v := (x1 + 1)) (ls' := [some (.ref 0), some (.int (x1 + 1))]) d_Model_image_34 rfl rfl (Nat.le_of_ble_eq_true rfl) rfl <|
    am_goto (tgt := 17) d_Model_image_37 (by decide) k
theorem b_Model_image_40 {d : Nat} {x1 : Int32} {h : am_H} {Q : am_Q} (q : Q (some (.int (h.1 0 22))) h) : am_W (X_Model_image d) 40 [some (.ref 0), some (.int x1)] [] h Q :=
  am_aload_n d_Model_image_40 rfl (i := 0) rfl <|
    am_getI (ci := 10) (i := 22) rfl rfl rfl (Nat.le_of_ble_eq_true rfl) w_1340 d_Model_image_41 <|
    am_iret rfl d_Model_image_44 q
theorem t_Model_image_40 {d : Nat} {x1 : Int32} {h : am_H} {Q : am_Q} {res : Int32 × am_H} (e : f_Model_image_40 h = some res) (q : Q (some (.int res.1)) res.2) : am_W (X_Model_image d) 40 [some (.ref 0), some (.int x1)] [] h Q :=
  b_Model_image_40 (d := d) (q := (am_rIpi (v := (h.1 0 22)) e q))
theorem t_Model_image_22 {d : Nat} {k17 : am_H → Int32 → Option (Int32 × am_H)} {x1 : Int32} {h : am_H} {Q : am_Q} {res : Int32 × am_H} (hk17 : ∀ (x1 : Int32) (h : am_H), k17 h x1 = some res → am_W (X_Model_image d) 17 [some (.ref 0), some (.int x1)] [] h Q) (e : f_Model_image_22 k17 h x1 = some res) (q : Q (some (.int res.1)) res.2) : am_W (X_Model_image d) 22 [some (.ref 0), some (.int x1)] [] h Q :=
  b_Model_image_22 (d := d) (q0 := (am_okv (am_gd e))) (q1 := (am_okv (am_gd (am_ga e)))) (k := (hk17 _ _ (am_ga (am_ga e))))
theorem t_Model_image_17 {d : Nat} {k17 : am_H → Int32 → Option (Int32 × am_H)} {x1 : Int32} {h : am_H} {Q : am_Q} {res : Int32 × am_H} (hk17 : ∀ (x1 : Int32) (h : am_H), k17 h x1 = some res → am_W (X_Model_image d) 17 [some (.ref 0), some (.int x1)] [] h Q) (e : f_Model_image_17 k17 h x1 = some res) (q : Q (some (.int res.1)) res.2) : am_W (X_Model_image d) 17 [some (.ref 0), some (.int x1)] [] h Q :=
  b_Model_image_17 (d := d) (kt := fun c => (t_Model_image_40 (am_ift e c) q)) (kf := fun c => (t_Model_image_22 hk17 (am_ife e c) q))
theorem t_Model_image_17_l {d : Nat} {Q : am_Q} {res : Int32 × am_H} (q : Q (some (.int res.1)) res.2) : ∀ (n : Nat) (x1 : Int32) (h : am_H), f_Model_image_17_l n h x1 = some res → am_W (X_Model_image d) 17 [some (.ref 0), some (.int x1)] [] h Q := by
  intro n
  induction n with
  | zero => intro x1 h e; exact am_nn e
  | succ n ih => intro x1 h e; exact t_Model_image_17 (fun x1 h e => ih x1 h  e) e q
theorem t_Model_image_0 {d : Nat} {h : am_H} {Q : am_Q} {res : Int32 × am_H} (e : f_Model_image h = some res) (q : Q (some (.int res.1)) res.2) : am_W (X_Model_image d) 0 [some (.ref 0), none] [] h Q :=
  b_Model_image_0 (d := d) (k := (t_Model_image_17_l q am_fu _ _ e))
theorem c_Model_image {d : Nat} {h : am_H} {Q : am_Q} {res : Int32 × am_H} (e : f_Model_image h = some res) (q : Q (some (.int res.1)) res.2) : m_Model_image d [.ref 0] h Q :=
  e_Model_image (t_Model_image_0 e q)
theorem d_Model_back_0 : decode prog_12_method_74_code 0 = .ok (.aload_n 0, 1) := by decide +kernel
theorem d_Model_back_1 : decode prog_12_method_74_code 1 = .ok (.getfield 297, 3) := by decide +kernel
theorem d_Model_back_4 : decode prog_12_method_74_code 4 = .ok (.ifCond .ne 6, 3) := by decide +kernel
theorem d_Model_back_7 : decode prog_12_method_74_code 7 = .ok (.bipush (-5), 2) := by decide +kernel
theorem d_Model_back_9 : decode prog_12_method_74_code 9 = .ok (.ireturn, 1) := by decide +kernel
theorem d_Model_back_10 : decode prog_12_method_74_code 10 = .ok (.aload_n 0, 1) := by decide +kernel
theorem d_Model_back_11 : decode prog_12_method_74_code 11 = .ok (.aload_n 0, 1) := by decide +kernel
theorem d_Model_back_12 : decode prog_12_method_74_code 12 = .ok (.getfield 49, 3) := by decide +kernel
theorem d_Model_back_15 : decode prog_12_method_74_code 15 = .ok (.iconst 5, 1) := by decide +kernel
theorem d_Model_back_16 : decode prog_12_method_74_code 16 = .ok (.iaload, 1) := by decide +kernel
theorem d_Model_back_17 : decode prog_12_method_74_code 17 = .ok (.putfield 139, 3) := by decide +kernel
theorem d_Model_back_20 : decode prog_12_method_74_code 20 = .ok (.iconst 0, 1) := by decide +kernel
theorem d_Model_back_21 : decode prog_12_method_74_code 21 = .ok (.istore_n 1, 1) := by decide +kernel
theorem d_Model_back_22 : decode prog_12_method_74_code 22 = .ok (.iload_n 1, 1) := by decide +kernel
theorem d_Model_back_23 : decode prog_12_method_74_code 23 = .ok (.iconst 5, 1) := by decide +kernel
theorem d_Model_back_24 : decode prog_12_method_74_code 24 = .ok (.if_icmp .ge 21, 3) := by decide +kernel
theorem d_Model_back_27 : decode prog_12_method_74_code 27 = .ok (.aload_n 0, 1) := by decide +kernel
theorem d_Model_back_28 : decode prog_12_method_74_code 28 = .ok (.getfield 46, 3) := by decide +kernel
theorem d_Model_back_31 : decode prog_12_method_74_code 31 = .ok (.iload_n 1, 1) := by decide +kernel
theorem d_Model_back_32 : decode prog_12_method_74_code 32 = .ok (.aload_n 0, 1) := by decide +kernel
theorem d_Model_back_33 : decode prog_12_method_74_code 33 = .ok (.getfield 49, 3) := by decide +kernel
theorem d_Model_back_36 : decode prog_12_method_74_code 36 = .ok (.iload_n 1, 1) := by decide +kernel
theorem d_Model_back_37 : decode prog_12_method_74_code 37 = .ok (.iaload, 1) := by decide +kernel
theorem d_Model_back_38 : decode prog_12_method_74_code 38 = .ok (.iastore, 1) := by decide +kernel
theorem d_Model_back_39 : decode prog_12_method_74_code 39 = .ok (.iinc 1 1, 3) := by decide +kernel
theorem d_Model_back_42 : decode prog_12_method_74_code 42 = .ok (.goto (-20), 3) := by decide +kernel
theorem d_Model_back_45 : decode prog_12_method_74_code 45 = .ok (.aload_n 0, 1) := by decide +kernel
theorem d_Model_back_46 : decode prog_12_method_74_code 46 = .ok (.getfield 139, 3) := by decide +kernel
theorem d_Model_back_49 : decode prog_12_method_74_code 49 = .ok (.ireturn, 1) := by decide +kernel
theorem b_Model_back_0 {d : Nat} {h : am_H} {Q : am_Q} (kt : ¬ (h.1 0 24) = 0 → am_W (X_Model_back d) 10 [some (.ref 0), none] [] h Q) (kf : (h.1 0 24) = 0 → am_W (X_Model_back d) 7 [some (.ref 0), none] [] h Q) : am_W (X_Model_back d) 0 [some (.ref 0), none] [] h Q :=
  am_aload_n d_Model_back_0 rfl (i := 0) rfl <|
    am_getI (ci := 10) (i := 24) rfl rfl rfl (Nat.le_of_ble_eq_true rfl) w_1342 d_Model_back_1 <|
    am_if_ne (tgt := 10) d_Model_back_4 (by decide) kt kf
theorem b_Model_back_7 {d : Nat} {h : am_H} {Q : am_Q} (q : Q (some (.int (-5))) h) : am_W (X_Model_back d) 7 [some (.ref 0), none] [] h Q :=
  am_bipush (v := (-5)) d_Model_back_7 (by decide) <|
    am_iret rfl d_Model_back_9 q
theorem b_Model_back_10 {d : Nat} {h : am_H} {Q : am_Q} (k : am_W (X_Model_back d) 22 [some (.ref 0), some (.int 0)] [] (am_pI h 0 22 (h.1 13 (5 : Int32).toNatClampNeg)) Q) : am_W (X_Model_back d) 10 [some (.ref 0), none] [] h Q :=
  am_aload_n d_Model_back_10 rfl (i := 0) rfl <|
    am_aload_n d_Model_back_11 rfl (i := 0) rfl <|
    am_getR (ci := 10) (i := 25) rfl rfl rfl (Nat.le_of_ble_eq_true rfl) w_1343 d_Model_back_12 <|
    am_iconst (v := 5) d_Model_back_15 (by decide) <|
    am_iald rfl (am_vin (by decide)) d_Model_back_16 <|
    am_putI (ci := 10) (i := 22) rfl rfl rfl (Nat.le_of_ble_eq_true rfl) w_1340 rfl rfl rfl d_Model_back_17 <|
    am_iconst (v := 0) d_Model_back_20 (by decide) <|
    am_istore_n (ls' := [some (.ref 0), some (.int 0)]) d_Model_back_21 rfl (Nat.le_of_ble_eq_true rfl) rfl <|
    k
theorem b_Model_back_22 {d : Nat} {x1 : Int32} {h : am_H} {Q : am_Q} (kt : 5 ≤ x1 → am_W (X_Model_back d) 45 [some (.ref 0), some (.int x1)] [] h Q) (kf : ¬ 5 ≤ x1 → am_W (X_Model_back d) 27 [some (.ref 0), some (.int x1)] [] h Q) : am_W (X_Model_back d) 22 [some (.ref 0), some (.int x1)] [] h Q :=
  am_iload_n d_Model_back_22 rfl (i := 1) rfl <|
    am_iconst (v := 5) d_Model_back_23 (by decide) <|
    am_icmp_ge (tgt := 45) d_Model_back_24 (by decide) kt kf
theorem b_Model_back_27 {d : Nat} {x1 : Int32} {h : am_H} {Q : am_Q} (q0 : vp_in x1 6) (q1 : vp_in x1 5) (k : am_W (X_Model_back d) 22 [some (.ref 0), some (.int (x1 + 1))] [] (am_pI h 12 x1.toNatClampNeg (h.1 13 x1.toNatClampNeg)) Q) : am_W (X_Model_back d) 27 [some (.ref 0), some (.int x1)] [] h Q :=
  am_aload_n d_Model_back_27 rfl (i := 0) rfl <|
    am_getR (ci := 10) (i := 23) rfl rfl rfl (Nat.le_of_ble_eq_true rfl) w_1341 d_Model_back_28 <|
    am_iload_n d_Model_back_31 rfl (i := 1) rfl <|
    am_aload_n d_Model_back_32 rfl (i := 0) rfl <|
    am_getR (ci := 10) (i := 25) rfl rfl rfl (Nat.le_of_ble_eq_true rfl) w_1343 d_Model_back_33 <|
    am_iload_n d_Model_back_36 rfl (i := 1) rfl <|
    am_iald rfl q0 d_Model_back_37 <|
    am_iast rfl q1 d_Model_back_38 <|
    am_iinc (v := (x1 + 1)) (ls' := [some (.ref 0), some (.int (x1 + 1))]) d_Model_back_39 rfl rfl (Nat.le_of_ble_eq_true rfl) rfl <|
    am_goto (tgt := 22) d_Model_back_42 (by decide) k
theorem b_Model_back_45 {d : Nat} {x1 : Int32} {h : am_H} {Q : am_Q} (q : Q (some (.int (h.1 0 22))) h) : am_W (X_Model_back d) 45 [some (.ref 0), some (.int x1)] [] h Q :=
  am_aload_n d_Model_back_45 rfl (i := 0) rfl <|
    am_getI (ci := 10) (i := 22) rfl rfl rfl (Nat.le_of_ble_eq_true rfl) w_1340 d_Model_back_46 <|
    am_iret rfl d_Model_back_49 q
theorem t_Model_back_45 {d : Nat} {x1 : Int32} {h : am_H} {Q : am_Q} {res : Int32 × am_H} (e : f_Model_back_45 h = some res) (q : Q (some (.int res.1)) res.2) : am_W (X_Model_back d) 45 [some (.ref 0), some (.int x1)] [] h Q :=
  b_Model_back_45 (d := d) (q := (am_rIpi (v := (h.1 0 22)) e q))
theorem t_Model_back_27 {d : Nat} {k22 : am_H → Int32 → Option (Int32 × am_H)} {x1 : Int32} {h : am_H} {Q : am_Q} {res : Int32 × am_H} (hk22 : ∀ (x1 : Int32) (h : am_H), k22 h x1 = some res → am_W (X_Model_back d) 22 [some (.ref 0), some (.int x1)] [] h Q) (e : f_Model_back_27 k22 h x1 = some res) (q : Q (some (.int res.1)) res.2) : am_W (X_Model_back d) 27 [some (.ref 0), some (.int x1)] [] h Q :=
  b_Model_back_27 (d := d) (q0 := (am_okv (am_gd e))) (q1 := (am_okv (am_gd (am_ga e)))) (k := (hk22 _ _ (am_ga (am_ga e))))
theorem t_Model_back_22 {d : Nat} {k22 : am_H → Int32 → Option (Int32 × am_H)} {x1 : Int32} {h : am_H} {Q : am_Q} {res : Int32 × am_H} (hk22 : ∀ (x1 : Int32) (h : am_H), k22 h x1 = some res → am_W (X_Model_back d) 22 [some (.ref 0), some (.int x1)] [] h Q) (e : f_Model_back_22 k22 h x1 = some res) (q : Q (some (.int res.1)) res.2) : am_W (X_Model_back d) 22 [some (.ref 0), some (.int x1)] [] h Q :=
  b_Model_back_22 (d := d) (kt := fun c => (t_Model_back_45 (am_ift e c) q)) (kf := fun c => (t_Model_back_27 hk22 (am_ife e c) q))
theorem t_Model_back_22_l {d : Nat} {Q : am_Q} {res : Int32 × am_H} (q : Q (some (.int res.1)) res.2) : ∀ (n : Nat) (x1 : Int32) (h : am_H), f_Model_back_22_l n h x1 = some res → am_W (X_Model_back d) 22 [some (.ref 0), some (.int x1)] [] h Q := by
  intro n
  induction n with
  | zero => intro x1 h e; exact am_nn e
  | succ n ih => intro x1 h e; exact t_Model_back_22 (fun x1 h e => ih x1 h  e) e q
theorem t_Model_back_10 {d : Nat} {h : am_H} {Q : am_Q} {res : Int32 × am_H} (e : f_Model_back_10 h = some res) (q : Q (some (.int res.1)) res.2) : am_W (X_Model_back d) 10 [some (.ref 0), none] [] h Q :=
  b_Model_back_10 (d := d) (k := (t_Model_back_22_l q am_fu _ _ e))
theorem t_Model_back_7 {d : Nat} {h : am_H} {Q : am_Q} {res : Int32 × am_H} (e : f_Model_back_7 h = some res) (q : Q (some (.int res.1)) res.2) : am_W (X_Model_back d) 7 [some (.ref 0), none] [] h Q :=
  b_Model_back_7 (d := d) (q := (am_rIpi (v := (-5)) e q))
theorem t_Model_back_0 {d : Nat} {h : am_H} {Q : am_Q} {res : Int32 × am_H} (e : f_Model_back h = some res) (q : Q (some (.int res.1)) res.2) : am_W (X_Model_back d) 0 [some (.ref 0), none] [] h Q :=
  b_Model_back_0 (d := d) (kt := fun c => (t_Model_back_10 (am_ife e c) q)) (kf := fun c => (t_Model_back_7 (am_ift e c) q))
theorem c_Model_back {d : Nat} {h : am_H} {Q : am_Q} {res : Int32 × am_H} (e : f_Model_back h = some res) (q : Q (some (.int res.1)) res.2) : m_Model_back d [.ref 0] h Q :=
  e_Model_back (t_Model_back_0 e q)
theorem d_Model_cellsOf_0 : decode prog_12_method_75_code 0 = .ok (.iconst 0, 1) := by decide +kernel
theorem d_Model_cellsOf_1 : decode prog_12_method_75_code 1 = .ok (.istore_n 2, 1) := by decide +kernel
theorem d_Model_cellsOf_2 : decode prog_12_method_75_code 2 = .ok (.iconst 0, 1) := by decide +kernel
theorem d_Model_cellsOf_3 : decode prog_12_method_75_code 3 = .ok (.istore_n 3, 1) := by decide +kernel
theorem d_Model_cellsOf_4 : decode prog_12_method_75_code 4 = .ok (.iload_n 3, 1) := by decide +kernel
theorem d_Model_cellsOf_5 : decode prog_12_method_75_code 5 = .ok (.bipush 31, 2) := by decide +kernel
theorem d_Model_cellsOf_7 : decode prog_12_method_75_code 7 = .ok (.if_icmp .ge 45, 3) := by decide +kernel
theorem d_Model_cellsOf_10 : decode prog_12_method_75_code 10 = .ok (.iload_n 2, 1) := by decide +kernel
theorem d_Model_cellsOf_11 : decode prog_12_method_75_code 11 = .ok (.iload_n 1, 1) := by decide +kernel
theorem d_Model_cellsOf_12 : decode prog_12_method_75_code 12 = .ok (.ifCond .eq 19, 3) := by decide +kernel
theorem d_Model_cellsOf_15 : decode prog_12_method_75_code 15 = .ok (.aload_n 0, 1) := by decide +kernel
theorem d_Model_cellsOf_16 : decode prog_12_method_75_code 16 = .ok (.iload_n 3, 1) := by decide +kernel
theorem d_Model_cellsOf_17 : decode prog_12_method_75_code 17 = .ok (.invokevirtual 89, 3) := by decide +kernel
theorem d_Model_cellsOf_20 : decode prog_12_method_75_code 20 = .ok (.ifCond .eq 7, 3) := by decide +kernel
theorem d_Model_cellsOf_23 : decode prog_12_method_75_code 23 = .ok (.iconst 1, 1) := by decide +kernel
theorem d_Model_cellsOf_24 : decode prog_12_method_75_code 24 = .ok (.goto 20, 3) := by decide +kernel
theorem d_Model_cellsOf_27 : decode prog_12_method_75_code 27 = .ok (.iconst 0, 1) := by decide +kernel
theorem d_Model_cellsOf_28 : decode prog_12_method_75_code 28 = .ok (.goto 16, 3) := by decide +kernel
theorem d_Model_cellsOf_31 : decode prog_12_method_75_code 31 = .ok (.aload_n 0, 1) := by decide +kernel
theorem d_Model_cellsOf_32 : decode prog_12_method_75_code 32 = .ok (.iload_n 3, 1) := by decide +kernel
theorem d_Model_cellsOf_33 : decode prog_12_method_75_code 33 = .ok (.invokevirtual 217, 3) := by decide +kernel
theorem d_Model_cellsOf_36 : decode prog_12_method_75_code 36 = .ok (.ifCond .eq 7, 3) := by decide +kernel
theorem d_Model_cellsOf_39 : decode prog_12_method_75_code 39 = .ok (.iconst 1, 1) := by decide +kernel
theorem d_Model_cellsOf_40 : decode prog_12_method_75_code 40 = .ok (.goto 4, 3) := by decide +kernel
theorem d_Model_cellsOf_43 : decode prog_12_method_75_code 43 = .ok (.iconst 0, 1) := by decide +kernel
theorem d_Model_cellsOf_44 : decode prog_12_method_75_code 44 = .ok (.iadd, 1) := by decide +kernel
theorem d_Model_cellsOf_45 : decode prog_12_method_75_code 45 = .ok (.istore_n 2, 1) := by decide +kernel
theorem d_Model_cellsOf_46 : decode prog_12_method_75_code 46 = .ok (.iinc 3 1, 3) := by decide +kernel
theorem d_Model_cellsOf_49 : decode prog_12_method_75_code 49 = .ok (.goto (-45), 3) := by decide +kernel
theorem d_Model_cellsOf_52 : decode prog_12_method_75_code 52 = .ok (.iload_n 2, 1) := by decide +kernel
theorem d_Model_cellsOf_53 : decode prog_12_method_75_code 53 = .ok (.ireturn, 1) := by decide +kernel
theorem b_Model_cellsOf_0 {d : Nat} {x1 : Int32} {h : am_H} {Q : am_Q} (k : am_W (X_Model_cellsOf d) 4 [some (.ref 0), some (.int x1), some (.int 0), some (.int 0)] [] h Q) : am_W (X_Model_cellsOf d) 0 [some (.ref 0), some (.int x1), none, none] [] h Q :=
  am_iconst (v := 0) d_Model_cellsOf_0 (by decide) <|
    am_istore_n (ls' := [some (.ref 0), some (.int x1), some (.int 0), none]) d_Model_cellsOf_1 rfl (Nat.le_of_ble_eq_true rfl) rfl <|
    am_iconst (v := 0) d_Model_cellsOf_2 (by decide) <|
    am_istore_n (ls' := [some (.ref 0), some (.int x1), some (.int 0), some (.int 0)]) d_Model_cellsOf_3 rfl (Nat.le_of_ble_eq_true rfl) rfl <|
    k
theorem b_Model_cellsOf_4 {d : Nat} {x1 : Int32} {x2 : Int32} {x3 : Int32} {h : am_H} {Q : am_Q} (kt : 31 ≤ x3 → am_W (X_Model_cellsOf d) 52 [some (.ref 0), some (.int x1), some (.int x2), some (.int x3)] [] h Q) (kf : ¬ 31 ≤ x3 → am_W (X_Model_cellsOf d) 10 [some (.ref 0), some (.int x1), some (.int x2), some (.int x3)] [] h Q) : am_W (X_Model_cellsOf d) 4 [some (.ref 0), some (.int x1), some (.int x2), some (.int x3)] [] h Q :=
  am_iload_n d_Model_cellsOf_4 rfl (i := 3) rfl <|
    am_bipush (v := 31) d_Model_cellsOf_5 (by decide) <|
    am_icmp_ge (tgt := 52) d_Model_cellsOf_7 (by decide) kt kf
theorem b_Model_cellsOf_10 {d : Nat} {x1 : Int32} {x2 : Int32} {x3 : Int32} {h : am_H} {Q : am_Q} (kt : x1 = 0 → am_W (X_Model_cellsOf d) 31 [some (.ref 0), some (.int x1), some (.int x2), some (.int x3)] [.int x2] h Q) (kf : ¬ x1 = 0 → am_W (X_Model_cellsOf d) 15 [some (.ref 0), some (.int x1), some (.int x2), some (.int x3)] [.int x2] h Q) : am_W (X_Model_cellsOf d) 10 [some (.ref 0), some (.int x1), some (.int x2), some (.int x3)] [] h Q :=
  am_iload_n d_Model_cellsOf_10 rfl (i := 2) rfl <|
    am_iload_n d_Model_cellsOf_11 rfl (i := 1) rfl <|
    am_if_eq (tgt := 31) d_Model_cellsOf_12 (by decide) kt kf
theorem b_Model_cellsOf_15 {d : Nat} {x1 : Int32} {x2 : Int32} {x3 : Int32} {y0 : Int32} {h : am_H} {Q : am_Q} (k : m_Model_isGreen d [.ref 0, .int x3] h (fun r hh => am_W (X_Model_cellsOf (d + 1)) 20 [some (.ref 0), some (.int x1), some (.int x2), some (.int x3)] (r.toList ++ [.int y0]) hh Q)) : am_W (X_Model_cellsOf (d + 1)) 15 [some (.ref 0), some (.int x1), some (.int x2), some (.int x3)] [.int y0] h Q :=
  am_aload_n d_Model_cellsOf_15 rfl (i := 0) rfl <|
    am_iload_n d_Model_cellsOf_16 rfl (i := 3) rfl <|
    am_callV (vs := [.int x3]) (st := [.int y0]) (k := 0) (ci := 10) rfl d_Model_cellsOf_17 rfl rfl w_1550 w_1552 w_49 w_94 w_1553 p_Model_isGreen (Nat.le_of_ble_eq_true rfl) (Nat.le_of_ble_eq_true rfl) rfl k
theorem b_Model_cellsOf_20 {d : Nat} {x1 : Int32} {x2 : Int32} {x3 : Int32} {y1 : Bool} {y0 : Int32} {h : am_H} {Q : am_Q} (kt : (am_b y1) = 0 → am_W (X_Model_cellsOf d) 27 [some (.ref 0), some (.int x1), some (.int x2), some (.int x3)] [.int y0] h Q) (kf : ¬ (am_b y1) = 0 → am_W (X_Model_cellsOf d) 23 [some (.ref 0), some (.int x1), some (.int x2), some (.int x3)] [.int y0] h Q) : am_W (X_Model_cellsOf d) 20 [some (.ref 0), some (.int x1), some (.int x2), some (.int x3)] [.int (am_b y1), .int y0] h Q :=
  am_if_eq (tgt := 27) d_Model_cellsOf_20 (by decide) kt kf
theorem b_Model_cellsOf_23 {d : Nat} {x1 : Int32} {x2 : Int32} {x3 : Int32} {y0 : Int32} {h : am_H} {Q : am_Q} (k : am_W (X_Model_cellsOf d) 44 [some (.ref 0), some (.int x1), some (.int x2), some (.int x3)] [.int 1, .int y0] h Q) : am_W (X_Model_cellsOf d) 23 [some (.ref 0), some (.int x1), some (.int x2), some (.int x3)] [.int y0] h Q :=
  am_iconst (v := 1) d_Model_cellsOf_23 (by decide) <|
    am_goto (tgt := 44) d_Model_cellsOf_24 (by decide) k
theorem b_Model_cellsOf_27 {d : Nat} {x1 : Int32} {x2 : Int32} {x3 : Int32} {y0 : Int32} {h : am_H} {Q : am_Q} (k : am_W (X_Model_cellsOf d) 44 [some (.ref 0), some (.int x1), some (.int x2), some (.int x3)] [.int 0, .int y0] h Q) : am_W (X_Model_cellsOf d) 27 [some (.ref 0), some (.int x1), some (.int x2), some (.int x3)] [.int y0] h Q :=
  am_iconst (v := 0) d_Model_cellsOf_27 (by decide) <|
    am_goto (tgt := 44) d_Model_cellsOf_28 (by decide) k
theorem b_Model_cellsOf_31 {d : Nat} {x1 : Int32} {x2 : Int32} {x3 : Int32} {y0 : Int32} {h : am_H} {Q : am_Q} (k : m_Model_isWater d [.ref 0, .int x3] h (fun r hh => am_W (X_Model_cellsOf (d + 1)) 36 [some (.ref 0), some (.int x1), some (.int x2), some (.int x3)] (r.toList ++ [.int y0]) hh Q)) : am_W (X_Model_cellsOf (d + 1)) 31 [some (.ref 0), some (.int x1), some (.int x2), some (.int x3)] [.int y0] h Q :=
  am_aload_n d_Model_cellsOf_31 rfl (i := 0) rfl <|
    am_iload_n d_Model_cellsOf_32 rfl (i := 3) rfl <|
    am_callV (vs := [.int x3]) (st := [.int y0]) (k := 0) (ci := 10) rfl d_Model_cellsOf_33 rfl rfl w_1586 w_1588 w_56 w_94 w_1589 p_Model_isWater (Nat.le_of_ble_eq_true rfl) (Nat.le_of_ble_eq_true rfl) rfl k
theorem b_Model_cellsOf_36 {d : Nat} {x1 : Int32} {x2 : Int32} {x3 : Int32} {y1 : Bool} {y0 : Int32} {h : am_H} {Q : am_Q} (kt : (am_b y1) = 0 → am_W (X_Model_cellsOf d) 43 [some (.ref 0), some (.int x1), some (.int x2), some (.int x3)] [.int y0] h Q) (kf : ¬ (am_b y1) = 0 → am_W (X_Model_cellsOf d) 39 [some (.ref 0), some (.int x1), some (.int x2), some (.int x3)] [.int y0] h Q) : am_W (X_Model_cellsOf d) 36 [some (.ref 0), some (.int x1), some (.int x2), some (.int x3)] [.int (am_b y1), .int y0] h Q :=
  am_if_eq (tgt := 43) d_Model_cellsOf_36 (by decide) kt kf
theorem b_Model_cellsOf_39 {d : Nat} {x1 : Int32} {x2 : Int32} {x3 : Int32} {y0 : Int32} {h : am_H} {Q : am_Q} (k : am_W (X_Model_cellsOf d) 44 [some (.ref 0), some (.int x1), some (.int x2), some (.int x3)] [.int 1, .int y0] h Q) : am_W (X_Model_cellsOf d) 39 [some (.ref 0), some (.int x1), some (.int x2), some (.int x3)] [.int y0] h Q :=
  am_iconst (v := 1) d_Model_cellsOf_39 (by decide) <|
    am_goto (tgt := 44) d_Model_cellsOf_40 (by decide) k
theorem b_Model_cellsOf_43 {d : Nat} {x1 : Int32} {x2 : Int32} {x3 : Int32} {y0 : Int32} {h : am_H} {Q : am_Q} (k : am_W (X_Model_cellsOf d) 44 [some (.ref 0), some (.int x1), some (.int x2), some (.int x3)] [.int 0, .int y0] h Q) : am_W (X_Model_cellsOf d) 43 [some (.ref 0), some (.int x1), some (.int x2), some (.int x3)] [.int y0] h Q :=
  am_iconst (v := 0) d_Model_cellsOf_43 (by decide) <|
    k
theorem b_Model_cellsOf_44 {d : Nat} {x1 : Int32} {x2 : Int32} {x3 : Int32} {y1 : Int32} {y0 : Int32} {h : am_H} {Q : am_Q} (k : am_W (X_Model_cellsOf d) 4 [some (.ref 0), some (.int x1), some (.int (y0 + y1)), some (.int (x3 + 1))] [] h Q) : am_W (X_Model_cellsOf d) 44 [some (.ref 0), some (.int x1), some (.int x2), some (.int x3)] [.int y1, .int y0] h Q :=
  am_iadd d_Model_cellsOf_44 <|
    am_istore_n (ls' := [some (.ref 0), some (.int x1), some (.int (y0 + y1)), some (.int x3)]) d_Model_cellsOf_45 rfl (Nat.le_of_ble_eq_true rfl) rfl <|
    am_iinc (v := (x3 + 1)) (ls' := [some (.ref 0), some (.int x1), some (.int (y0 + y1)), some (.int (x3 + 1))]) d_Model_cellsOf_46 rfl rfl (Nat.le_of_ble_eq_true rfl) rfl <|
    am_goto (tgt := 4) d_Model_cellsOf_49 (by decide) k
theorem b_Model_cellsOf_52 {d : Nat} {x1 : Int32} {x2 : Int32} {x3 : Int32} {h : am_H} {Q : am_Q} (q : Q (some (.int x2)) h) : am_W (X_Model_cellsOf d) 52 [some (.ref 0), some (.int x1), some (.int x2), some (.int x3)] [] h Q :=
  am_iload_n d_Model_cellsOf_52 rfl (i := 2) rfl <|
    am_iret rfl d_Model_cellsOf_53 q
theorem t_Model_cellsOf_52 {d : Nat} {x1 : Int32} {x2 : Int32} {x3 : Int32} {h : am_H} {Q : am_Q} {res : Int32} (e : f_Model_cellsOf_52 h x2 = some res) (q : Q (some (.int res)) h) : am_W (X_Model_cellsOf (d + 2)) 52 [some (.ref 0), some (.int x1), some (.int x2), some (.int x3)] [] h Q :=
  b_Model_cellsOf_52 (d := (d + 2)) (q := (am_rIp (v := x2) e q))
theorem t_Model_cellsOf_44 {d : Nat} {k4 : Int32 → Int32 → Int32 → Option (Int32)} {x1 : Int32} {x2 : Int32} {x3 : Int32} {y1 : Int32} {y0 : Int32} {h : am_H} {Q : am_Q} {res : Int32} (hk4 : ∀ (x1 : Int32) (x2 : Int32) (x3 : Int32), k4 x1 x2 x3 = some res → am_W (X_Model_cellsOf (d + 2)) 4 [some (.ref 0), some (.int x1), some (.int x2), some (.int x3)] [] h Q) (e : f_Model_cellsOf_44 k4 h x1 x3 y1 y0 = some res) (q : Q (some (.int res)) h) : am_W (X_Model_cellsOf (d + 2)) 44 [some (.ref 0), some (.int x1), some (.int x2), some (.int x3)] [.int y1, .int y0] h Q :=
  b_Model_cellsOf_44 (d := (d + 2)) (k := (hk4 _ _ _ e))
theorem t_Model_cellsOf_43 {d : Nat} {k4 : Int32 → Int32 → Int32 → Option (Int32)} {x1 : Int32} {x2 : Int32} {x3 : Int32} {y0 : Int32} {h : am_H} {Q : am_Q} {res : Int32} (hk4 : ∀ (x1 : Int32) (x2 : Int32) (x3 : Int32), k4 x1 x2 x3 = some res → am_W (X_Model_cellsOf (d + 2)) 4 [some (.ref 0), some (.int x1), some (.int x2), some (.int x3)] [] h Q) (e : f_Model_cellsOf_43 k4 h x1 x3 y0 = some res) (q : Q (some (.int res)) h) : am_W (X_Model_cellsOf (d + 2)) 43 [some (.ref 0), some (.int x1), some (.int x2), some (.int x3)] [.int y0] h Q :=
  b_Model_cellsOf_43 (d := (d + 2)) (k := (t_Model_cellsOf_44 hk4 e q))
theorem t_Model_cellsOf_39 {d : Nat} {k4 : Int32 → Int32 → Int32 → Option (Int32)} {x1 : Int32} {x2 : Int32} {x3 : Int32} {y0 : Int32} {h : am_H} {Q : am_Q} {res : Int32} (hk4 : ∀ (x1 : Int32) (x2 : Int32) (x3 : Int32), k4 x1 x2 x3 = some res → am_W (X_Model_cellsOf (d + 2)) 4 [some (.ref 0), some (.int x1), some (.int x2), some (.int x3)] [] h Q) (e : f_Model_cellsOf_39 k4 h x1 x3 y0 = some res) (q : Q (some (.int res)) h) : am_W (X_Model_cellsOf (d + 2)) 39 [some (.ref 0), some (.int x1), some (.int x2), some (.int x3)] [.int y0] h Q :=
  b_Model_cellsOf_39 (d := (d + 2)) (k := (t_Model_cellsOf_44 hk4 e q))
theorem t_Model_cellsOf_36 {d : Nat} {k4 : Int32 → Int32 → Int32 → Option (Int32)} {x1 : Int32} {x2 : Int32} {x3 : Int32} {y1 : Bool} {y0 : Int32} {h : am_H} {Q : am_Q} {res : Int32} (hk4 : ∀ (x1 : Int32) (x2 : Int32) (x3 : Int32), k4 x1 x2 x3 = some res → am_W (X_Model_cellsOf (d + 2)) 4 [some (.ref 0), some (.int x1), some (.int x2), some (.int x3)] [] h Q) (e : f_Model_cellsOf_36 k4 h x1 x3 y1 y0 = some res) (q : Q (some (.int res)) h) : am_W (X_Model_cellsOf (d + 2)) 36 [some (.ref 0), some (.int x1), some (.int x2), some (.int x3)] [.int (am_b y1), .int y0] h Q :=
  b_Model_cellsOf_36 (d := (d + 2)) (kt := fun c => (t_Model_cellsOf_43 hk4 (am_iff e (am_bz c)) q)) (kf := fun c => (t_Model_cellsOf_39 hk4 (am_ift e (am_bn c)) q))
theorem t_Model_cellsOf_31 {d : Nat} {k4 : Int32 → Int32 → Int32 → Option (Int32)} {x1 : Int32} {x2 : Int32} {x3 : Int32} {y0 : Int32} {h : am_H} {Q : am_Q} {res : Int32} (hk4 : ∀ (x1 : Int32) (x2 : Int32) (x3 : Int32), k4 x1 x2 x3 = some res → am_W (X_Model_cellsOf (d + 2)) 4 [some (.ref 0), some (.int x1), some (.int x2), some (.int x3)] [] h Q) (e : f_Model_cellsOf_31 k4 h x1 x3 y0 = some res) (q : Q (some (.int res)) h) : am_W (X_Model_cellsOf (d + 2)) 31 [some (.ref 0), some (.int x1), some (.int x2), some (.int x3)] [.int y0] h Q :=
  (am_bd e).elim fun p hp => b_Model_cellsOf_31 (d := (d + 1)) (k := c_Model_isWater (d := d) hp.1 (t_Model_cellsOf_36 hk4 hp.2 q))
theorem t_Model_cellsOf_27 {d : Nat} {k4 : Int32 → Int32 → Int32 → Option (Int32)} {x1 : Int32} {x2 : Int32} {x3 : Int32} {y0 : Int32} {h : am_H} {Q : am_Q} {res : Int32} (hk4 : ∀ (x1 : Int32) (x2 : Int32) (x3 : Int32), k4 x1 x2 x3 = some res → am_W (X_Model_cellsOf (d + 2)) 4 [some (.ref 0), some (.int x1), some (.int x2), some (.int x3)] [] h Q) (e : f_Model_cellsOf_27 k4 h x1 x3 y0 = some res) (q : Q (some (.int res)) h) : am_W (X_Model_cellsOf (d + 2)) 27 [some (.ref 0), some (.int x1), some (.int x2), some (.int x3)] [.int y0] h Q :=
  b_Model_cellsOf_27 (d := (d + 2)) (k := (t_Model_cellsOf_44 hk4 e q))
theorem t_Model_cellsOf_23 {d : Nat} {k4 : Int32 → Int32 → Int32 → Option (Int32)} {x1 : Int32} {x2 : Int32} {x3 : Int32} {y0 : Int32} {h : am_H} {Q : am_Q} {res : Int32} (hk4 : ∀ (x1 : Int32) (x2 : Int32) (x3 : Int32), k4 x1 x2 x3 = some res → am_W (X_Model_cellsOf (d + 2)) 4 [some (.ref 0), some (.int x1), some (.int x2), some (.int x3)] [] h Q) (e : f_Model_cellsOf_23 k4 h x1 x3 y0 = some res) (q : Q (some (.int res)) h) : am_W (X_Model_cellsOf (d + 2)) 23 [some (.ref 0), some (.int x1), some (.int x2), some (.int x3)] [.int y0] h Q :=
  b_Model_cellsOf_23 (d := (d + 2)) (k := (t_Model_cellsOf_44 hk4 e q))
theorem t_Model_cellsOf_20 {d : Nat} {k4 : Int32 → Int32 → Int32 → Option (Int32)} {x1 : Int32} {x2 : Int32} {x3 : Int32} {y1 : Bool} {y0 : Int32} {h : am_H} {Q : am_Q} {res : Int32} (hk4 : ∀ (x1 : Int32) (x2 : Int32) (x3 : Int32), k4 x1 x2 x3 = some res → am_W (X_Model_cellsOf (d + 2)) 4 [some (.ref 0), some (.int x1), some (.int x2), some (.int x3)] [] h Q) (e : f_Model_cellsOf_20 k4 h x1 x3 y1 y0 = some res) (q : Q (some (.int res)) h) : am_W (X_Model_cellsOf (d + 2)) 20 [some (.ref 0), some (.int x1), some (.int x2), some (.int x3)] [.int (am_b y1), .int y0] h Q :=
  b_Model_cellsOf_20 (d := (d + 2)) (kt := fun c => (t_Model_cellsOf_27 hk4 (am_iff e (am_bz c)) q)) (kf := fun c => (t_Model_cellsOf_23 hk4 (am_ift e (am_bn c)) q))
theorem t_Model_cellsOf_15 {d : Nat} {k4 : Int32 → Int32 → Int32 → Option (Int32)} {x1 : Int32} {x2 : Int32} {x3 : Int32} {y0 : Int32} {h : am_H} {Q : am_Q} {res : Int32} (hk4 : ∀ (x1 : Int32) (x2 : Int32) (x3 : Int32), k4 x1 x2 x3 = some res → am_W (X_Model_cellsOf (d + 2)) 4 [some (.ref 0), some (.int x1), some (.int x2), some (.int x3)] [] h Q) (e : f_Model_cellsOf_15 k4 h x1 x3 y0 = some res) (q : Q (some (.int res)) h) : am_W (X_Model_cellsOf (d + 2)) 15 [some (.ref 0), some (.int x1), some (.int x2), some (.int x3)] [.int y0] h Q :=
  (am_bd e).elim fun p hp => b_Model_cellsOf_15 (d := (d + 1)) (k := c_Model_isGreen (d := d + 1) hp.1 (t_Model_cellsOf_20 hk4 hp.2 q))
theorem t_Model_cellsOf_10 {d : Nat} {k4 : Int32 → Int32 → Int32 → Option (Int32)} {x1 : Int32} {x2 : Int32} {x3 : Int32} {h : am_H} {Q : am_Q} {res : Int32} (hk4 : ∀ (x1 : Int32) (x2 : Int32) (x3 : Int32), k4 x1 x2 x3 = some res → am_W (X_Model_cellsOf (d + 2)) 4 [some (.ref 0), some (.int x1), some (.int x2), some (.int x3)] [] h Q) (e : f_Model_cellsOf_10 k4 h x1 x2 x3 = some res) (q : Q (some (.int res)) h) : am_W (X_Model_cellsOf (d + 2)) 10 [some (.ref 0), some (.int x1), some (.int x2), some (.int x3)] [] h Q :=
  b_Model_cellsOf_10 (d := (d + 2)) (kt := fun c => (t_Model_cellsOf_31 hk4 (am_ift e c) q)) (kf := fun c => (t_Model_cellsOf_15 hk4 (am_ife e c) q))
theorem t_Model_cellsOf_4 {d : Nat} {k4 : Int32 → Int32 → Int32 → Option (Int32)} {x1 : Int32} {x2 : Int32} {x3 : Int32} {h : am_H} {Q : am_Q} {res : Int32} (hk4 : ∀ (x1 : Int32) (x2 : Int32) (x3 : Int32), k4 x1 x2 x3 = some res → am_W (X_Model_cellsOf (d + 2)) 4 [some (.ref 0), some (.int x1), some (.int x2), some (.int x3)] [] h Q) (e : f_Model_cellsOf_4 k4 h x1 x2 x3 = some res) (q : Q (some (.int res)) h) : am_W (X_Model_cellsOf (d + 2)) 4 [some (.ref 0), some (.int x1), some (.int x2), some (.int x3)] [] h Q :=
  b_Model_cellsOf_4 (d := (d + 2)) (kt := fun c => (t_Model_cellsOf_52 (am_ift e c) q)) (kf := fun c => (t_Model_cellsOf_10 hk4 (am_ife e c) q))
theorem t_Model_cellsOf_4_l {d : Nat} {h : am_H} {Q : am_Q} {res : Int32} (q : Q (some (.int res)) h) : ∀ (n : Nat) (x1 : Int32) (x2 : Int32) (x3 : Int32), f_Model_cellsOf_4_l h n x1 x2 x3 = some res → am_W (X_Model_cellsOf (d + 2)) 4 [some (.ref 0), some (.int x1), some (.int x2), some (.int x3)] [] h Q := by
  intro n
  induction n with
  | zero => intro x1 x2 x3 e; exact am_nn e
  | succ n ih => intro x1 x2 x3 e; exact t_Model_cellsOf_4 (fun x1 x2 x3 e => ih x1 x2 x3  e) e q
theorem t_Model_cellsOf_0 {d : Nat} {x1 : Int32} {h : am_H} {Q : am_Q} {res : Int32} (e : f_Model_cellsOf h x1 = some res) (q : Q (some (.int res)) h) : am_W (X_Model_cellsOf (d + 2)) 0 [some (.ref 0), some (.int x1), none, none] [] h Q :=
  b_Model_cellsOf_0 (d := (d + 2)) (k := (t_Model_cellsOf_4_l q am_fu _ _ _ e))
theorem c_Model_cellsOf {d : Nat} {x1 : Int32} {h : am_H} {Q : am_Q} {res : Int32} (e : f_Model_cellsOf h x1 = some res) (q : Q (some (.int res)) h) : m_Model_cellsOf (d + 2) [.ref 0, .int x1] h Q :=
  e_Model_cellsOf (t_Model_cellsOf_0 e q)
theorem d_Model_isBody_0 : decode prog_12_method_76_code 0 = .ok (.iload_n 1, 1) := by decide +kernel
theorem d_Model_isBody_1 : decode prog_12_method_76_code 1 = .ok (.i2l, 1) := by decide +kernel
theorem d_Model_isBody_2 : decode prog_12_method_76_code 2 = .ok (.lconst 0, 1) := by decide +kernel
theorem d_Model_isBody_3 : decode prog_12_method_76_code 3 = .ok (.aload_n 0, 1) := by decide +kernel
theorem d_Model_isBody_4 : decode prog_12_method_76_code 4 = .ok (.getfield 301, 3) := by decide +kernel
theorem d_Model_isBody_7 : decode prog_12_method_76_code 7 = .ok (.iconst 1, 1) := by decide +kernel
theorem d_Model_isBody_8 : decode prog_12_method_76_code 8 = .ok (.isub, 1) := by decide +kernel
theorem d_Model_isBody_9 : decode prog_12_method_76_code 9 = .ok (.i2l, 1) := by decide +kernel
theorem d_Model_isBody_10 : decode prog_12_method_76_code 10 = .ok (.invokestatic 83, 3) := by decide +kernel
theorem d_Model_isBody_13 : decode prog_12_method_76_code 13 = .ok (.ireturn, 1) := by decide +kernel
theorem b_Model_isBody_0 {d : Nat} {x1 : Int32} {h : am_H} {Q : am_Q} (k : m_Model_within d [.long x1.toInt64, .long 0, .long (((h.1 0 26) - 1).toInt64)] h (fun r hh => am_W (X_Model_isBody (d + 1)) 13 [some (.ref 0), some (.int x1)] (r.toList ++ []) hh Q)) : am_W (X_Model_isBody (d + 1)) 0 [some (.ref 0), some (.int x1)] [] h Q :=
  am_iload_n d_Model_isBody_0 rfl (i := 1) rfl <|
    am_i2l d_Model_isBody_1 <|
    am_lconst (v := 0) d_Model_isBody_2 (by decide) <|
    am_aload_n d_Model_isBody_3 rfl (i := 0) rfl <|
    am_getI (ci := 10) (i := 26) rfl rfl rfl (Nat.le_of_ble_eq_true rfl) w_1344 d_Model_isBody_4 <|
    am_iconst (v := 1) d_Model_isBody_7 (by decide) <|
    am_isub d_Model_isBody_8 <|
    am_i2l d_Model_isBody_9 <|
    am_callS (vs := [.long x1.toInt64, .long 0, .long (((h.1 0 26) - 1).toInt64)]) (st := []) rfl d_Model_isBody_10 w_1443 w_1444 w_94 w_1445 p_Model_within (Nat.le_of_ble_eq_true rfl) (Nat.le_of_ble_eq_true rfl) rfl k
theorem b_Model_isBody_13 {d : Nat} {x1 : Int32} {y0 : Bool} {h : am_H} {Q : am_Q} (q : Q (some (.int (am_b y0))) h) : am_W (X_Model_isBody d) 13 [some (.ref 0), some (.int x1)] [.int (am_b y0)] h Q :=
  am_zret (ty := .boolean) rfl am_nb d_Model_isBody_13 q
theorem t_Model_isBody_13 {d : Nat} {x1 : Int32} {y0 : Bool} {h : am_H} {Q : am_Q} {res : Bool} (e : f_Model_isBody_13 h y0 = res) (q : Q (some (.int (am_b res))) h) : am_W (X_Model_isBody (d + 1)) 13 [some (.ref 0), some (.int x1)] [.int (am_b y0)] h Q :=
  b_Model_isBody_13 (d := (d + 1)) (q := (am_rZt (v := y0) e q))
theorem t_Model_isBody_0 {d : Nat} {x1 : Int32} {h : am_H} {Q : am_Q} {res : Bool} (e : f_Model_isBody h x1 = res) (q : Q (some (.int (am_b res))) h) : am_W (X_Model_isBody (d + 1)) 0 [some (.ref 0), some (.int x1)] [] h Q :=
  b_Model_isBody_0 (d := d) (k := c_Model_within (d := d) rfl (t_Model_isBody_13 e q))
theorem c_Model_isBody {d : Nat} {x1 : Int32} {h : am_H} {Q : am_Q} {res : Bool} (e : f_Model_isBody h x1 = res) (q : Q (some (.int (am_b res))) h) : m_Model_isBody (d + 1) [.ref 0, .int x1] h Q :=
  e_Model_isBody (t_Model_isBody_0 e q)
theorem d_Model_kindOf_0 : decode prog_12_method_77_code 0 = .ok (.aload_n 0, 1) := by decide +kernel
theorem d_Model_kindOf_1 : decode prog_12_method_77_code 1 = .ok (.getfield 52, 3) := by decide +kernel
theorem d_Model_kindOf_4 : decode prog_12_method_77_code 4 = .ok (.iload_n 1, 1) := by decide +kernel
theorem d_Model_kindOf_5 : decode prog_12_method_77_code 5 = .ok (.iaload, 1) := by decide +kernel
theorem d_Model_kindOf_6 : decode prog_12_method_77_code 6 = .ok (.ireturn, 1) := by decide +kernel
theorem b_Model_kindOf_0 {d : Nat} {x1 : Int32} {h : am_H} {Q : am_Q} (q0 : vp_in x1 50) (q : Q (some (.int (h.1 14 x1.toNatClampNeg))) h) : am_W (X_Model_kindOf d) 0 [some (.ref 0), some (.int x1)] [] h Q :=
  am_aload_n d_Model_kindOf_0 rfl (i := 0) rfl <|
    am_getR (ci := 10) (i := 27) rfl rfl rfl (Nat.le_of_ble_eq_true rfl) w_1345 d_Model_kindOf_1 <|
    am_iload_n d_Model_kindOf_4 rfl (i := 1) rfl <|
    am_iald rfl q0 d_Model_kindOf_5 <|
    am_iret rfl d_Model_kindOf_6 q
theorem t_Model_kindOf_0 {d : Nat} {x1 : Int32} {h : am_H} {Q : am_Q} {res : Int32} (e : f_Model_kindOf h x1 = some res) (q : Q (some (.int res)) h) : am_W (X_Model_kindOf d) 0 [some (.ref 0), some (.int x1)] [] h Q :=
  b_Model_kindOf_0 (d := d) (q0 := (am_okv (am_gd e))) (q := (am_rIp (v := (h.1 14 x1.toNatClampNeg)) (am_ga e) q))
theorem c_Model_kindOf {d : Nat} {x1 : Int32} {h : am_H} {Q : am_Q} {res : Int32} (e : f_Model_kindOf h x1 = some res) (q : Q (some (.int res)) h) : m_Model_kindOf d [.ref 0, .int x1] h Q :=
  e_Model_kindOf (t_Model_kindOf_0 e q)
theorem d_Model_body_0 : decode prog_12_method_78_code 0 = .ok (.iload_n 1, 1) := by decide +kernel
theorem d_Model_body_1 : decode prog_12_method_78_code 1 = .ok (.i2l, 1) := by decide +kernel
theorem d_Model_body_2 : decode prog_12_method_78_code 2 = .ok (.lconst 0, 1) := by decide +kernel
theorem d_Model_body_3 : decode prog_12_method_78_code 3 = .ok (.ldc2_w 304, 3) := by decide +kernel
theorem d_Model_body_6 : decode prog_12_method_78_code 6 = .ok (.invokestatic 83, 3) := by decide +kernel
theorem d_Model_body_9 : decode prog_12_method_78_code 9 = .ok (.ifCond .ne 5, 3) := by decide +kernel
theorem d_Model_body_12 : decode prog_12_method_78_code 12 = .ok (.iconst (-1), 1) := by decide +kernel
theorem d_Model_body_13 : decode prog_12_method_78_code 13 = .ok (.ireturn, 1) := by decide +kernel
theorem d_Model_body_14 : decode prog_12_method_78_code 14 = .ok (.aload_n 0, 1) := by decide +kernel
theorem d_Model_body_15 : decode prog_12_method_78_code 15 = .ok (.getfield 301, 3) := by decide +kernel
theorem d_Model_body_18 : decode prog_12_method_78_code 18 = .ok (.bipush 50, 2) := by decide +kernel
theorem d_Model_body_20 : decode prog_12_method_78_code 20 = .ok (.if_icmp .ne 6, 3) := by decide +kernel
theorem d_Model_body_23 : decode prog_12_method_78_code 23 = .ok (.bipush (-3), 2) := by decide +kernel
theorem d_Model_body_25 : decode prog_12_method_78_code 25 = .ok (.ireturn, 1) := by decide +kernel
theorem d_Model_body_26 : decode prog_12_method_78_code 26 = .ok (.aload_n 0, 1) := by decide +kernel
theorem d_Model_body_27 : decode prog_12_method_78_code 27 = .ok (.getfield 52, 3) := by decide +kernel
theorem d_Model_body_30 : decode prog_12_method_78_code 30 = .ok (.aload_n 0, 1) := by decide +kernel
theorem d_Model_body_31 : decode prog_12_method_78_code 31 = .ok (.getfield 301, 3) := by decide +kernel
theorem d_Model_body_34 : decode prog_12_method_78_code 34 = .ok (.iload_n 1, 1) := by decide +kernel
theorem d_Model_body_35 : decode prog_12_method_78_code 35 = .ok (.iastore, 1) := by decide +kernel
theorem d_Model_body_36 : decode prog_12_method_78_code 36 = .ok (.aload_n 0, 1) := by decide +kernel
theorem d_Model_body_37 : decode prog_12_method_78_code 37 = .ok (.dup, 1) := by decide +kernel
theorem d_Model_body_38 : decode prog_12_method_78_code 38 = .ok (.getfield 301, 3) := by decide +kernel
theorem d_Model_body_41 : decode prog_12_method_78_code 41 = .ok (.iconst 1, 1) := by decide +kernel
theorem d_Model_body_42 : decode prog_12_method_78_code 42 = .ok (.iadd, 1) := by decide +kernel
theorem d_Model_body_43 : decode prog_12_method_78_code 43 = .ok (.putfield 301, 3) := by decide +kernel
theorem d_Model_body_46 : decode prog_12_method_78_code 46 = .ok (.aload_n 0, 1) := by decide +kernel
theorem d_Model_body_47 : decode prog_12_method_78_code 47 = .ok (.getfield 301, 3) := by decide +kernel
theorem d_Model_body_50 : decode prog_12_method_78_code 50 = .ok (.iconst 1, 1) := by decide +kernel
theorem d_Model_body_51 : decode prog_12_method_78_code 51 = .ok (.isub, 1) := by decide +kernel
theorem d_Model_body_52 : decode prog_12_method_78_code 52 = .ok (.ireturn, 1) := by decide +kernel
theorem b_Model_body_0 {d : Nat} {x1 : Int32} {h : am_H} {Q : am_Q} (k : m_Model_within d [.long x1.toInt64, .long 0, .long 7] h (fun r hh => am_W (X_Model_body (d + 1)) 9 [some (.ref 0), some (.int x1)] (r.toList ++ []) hh Q)) : am_W (X_Model_body (d + 1)) 0 [some (.ref 0), some (.int x1)] [] h Q :=
  am_iload_n d_Model_body_0 rfl (i := 1) rfl <|
    am_i2l d_Model_body_1 <|
    am_lconst (v := 0) d_Model_body_2 (by decide) <|
    am_ldc2 (v := 7) d_Model_body_3 w_1737 <|
    am_callS (vs := [.long x1.toInt64, .long 0, .long 7]) (st := []) rfl d_Model_body_6 w_1443 w_1444 w_94 w_1445 p_Model_within (Nat.le_of_ble_eq_true rfl) (Nat.le_of_ble_eq_true rfl) rfl k
theorem b_Model_body_9 {d : Nat} {x1 : Int32} {y0 : Bool} {h : am_H} {Q : am_Q} (kt : ¬ (am_b y0) = 0 → am_W (X_Model_body d) 14 [some (.ref 0), some (.int x1)] [] h Q) (kf : (am_b y0) = 0 → am_W (X_Model_body d) 12 [some (.ref 0), some (.int x1)] [] h Q) : am_W (X_Model_body d) 9 [some (.ref 0), some (.int x1)] [.int (am_b y0)] h Q :=
  am_if_ne (tgt := 14) d_Model_body_9 (by decide) kt kf
theorem b_Model_body_12 {d : Nat} {x1 : Int32} {h : am_H} {Q : am_Q} (q : Q (some (.int (-1))) h) : am_W (X_Model_body d) 12 [some (.ref 0), some (.int x1)] [] h Q :=
  am_iconst (v := (-1)) d_Model_body_12 (by decide) <|
    am_iret rfl d_Model_body_13 q
theorem b_Model_body_14 {d : Nat} {x1 : Int32} {h : am_H} {Q : am_Q} (kt : ¬ (h.1 0 26) = 50 → am_W (X_Model_body d) 26 [some (.ref 0), some (.int x1)] [] h Q) (kf : (h.1 0 26) = 50 → am_W (X_Model_body d) 23 [some (.ref 0), some (.int x1)] [] h Q) : am_W (X_Model_body d) 14 [some (.ref 0), some (.int x1)] [] h Q :=
  am_aload_n d_Model_body_14 rfl (i := 0) rfl <|
    am_getI (ci := 10) (i := 26) rfl rfl rfl (Nat.le_of_ble_eq_true rfl) w_1344 d_Model_body_15 <|
    am_bipush (v := 50) d_Model_body_18 (by decide) <|
    am_icmp_ne (tgt := 26) d_Model_body_20 (by decide) kt kf
theorem b_Model_body_23 {d : Nat} {x1 : Int32} {h : am_H} {Q : am_Q} (q : Q (some (.int (-3))) h) : am_W (X_Model_body d) 23 [some (.ref 0), some (.int x1)] [] h Q :=
  am_bipush (v := (-3)) d_Model_body_23 (by decide) <|
    am_iret rfl d_Model_body_25 q
theorem b_Model_body_26 {d : Nat} {x1 : Int32} {h : am_H} {Q : am_Q} (q0 : vp_in (h.1 0 26) 50) (q : Q (some (.int (((am_pI (am_pI h 14 (h.1 0 26).toNatClampNeg x1) 0 26 (((am_pI h 14 (h.1 0 26).toNatClampNeg x1).1 0 26) + 1)).1 0 26) - 1))) (am_pI (am_pI h 14 (h.1 0 26).toNatClampNeg x1) 0 26 (((am_pI h 14 (h.1 0 26).toNatClampNeg x1).1 0 26) + 1))) : am_W (X_Model_body d) 26 [some (.ref 0), some (.int x1)] [] h Q :=
  am_aload_n d_Model_body_26 rfl (i := 0) rfl <|
    am_getR (ci := 10) (i := 27) rfl rfl rfl (Nat.le_of_ble_eq_true rfl) w_1345 d_Model_body_27 <|
    am_aload_n d_Model_body_30 rfl (i := 0) rfl <|
    am_getI (ci := 10) (i := 26) rfl rfl rfl (Nat.le_of_ble_eq_true rfl) w_1344 d_Model_body_31 <|
    am_iload_n d_Model_body_34 rfl (i := 1) rfl <|
    am_iast rfl q0 d_Model_body_35 <|
    am_aload_n d_Model_body_36 rfl (i := 0) rfl <|
    am_dupR d_Model_body_37 <|
    am_getI (ci := 10) (i := 26) rfl rfl rfl (Nat.le_of_ble_eq_true rfl) w_1344 d_Model_body_38 <|
    am_iconst (v := 1) d_Model_body_41 (by decide) <|
    am_iadd d_Model_body_42 <|
    am_putI (ci := 10) (i := 26) rfl rfl rfl (Nat.le_of_ble_eq_true rfl) w_1344 rfl rfl rfl d_Model_body_43 <|
    am_aload_n d_Model_body_46 rfl (i := 0) rfl <|
    am_getI (ci := 10) (i := 26) rfl rfl rfl (Nat.le_of_ble_eq_true rfl) w_1344 d_Model_body_47 <|
    am_iconst (v := 1) d_Model_body_50 (by decide) <|
    am_isub d_Model_body_51 <|
    am_iret rfl d_Model_body_52 q
theorem t_Model_body_26 {d : Nat} {x1 : Int32} {h : am_H} {Q : am_Q} {res : Int32 × am_H} (e : f_Model_body_26 h x1 = some res) (q : Q (some (.int res.1)) res.2) : am_W (X_Model_body (d + 1)) 26 [some (.ref 0), some (.int x1)] [] h Q :=
  b_Model_body_26 (d := (d + 1)) (q0 := (am_okv (am_gd e))) (q := (am_rIpi (v := (((am_pI (am_pI h 14 (h.1 0 26).toNatClampNeg x1) 0 26 (((am_pI h 14 (h.1 0 26).toNatClampNeg x1).1 0 26) + 1)).1 0 26) - 1)) (am_ga e) q))
theorem t_Model_body_23 {d : Nat} {x1 : Int32} {h : am_H} {Q : am_Q} {res : Int32 × am_H} (e : f_Model_body_23 h = some res) (q : Q (some (.int res.1)) res.2) : am_W (X_Model_body (d + 1)) 23 [some (.ref 0), some (.int x1)] [] h Q :=
  b_Model_body_23 (d := (d + 1)) (q := (am_rIpi (v := (-3)) e q))
theorem t_Model_body_14 {d : Nat} {x1 : Int32} {h : am_H} {Q : am_Q} {res : Int32 × am_H} (e : f_Model_body_14 h x1 = some res) (q : Q (some (.int res.1)) res.2) : am_W (X_Model_body (d + 1)) 14 [some (.ref 0), some (.int x1)] [] h Q :=
  b_Model_body_14 (d := (d + 1)) (kt := fun c => (t_Model_body_26 (am_ife e c) q)) (kf := fun c => (t_Model_body_23 (am_ift e c) q))
theorem t_Model_body_12 {d : Nat} {x1 : Int32} {h : am_H} {Q : am_Q} {res : Int32 × am_H} (e : f_Model_body_12 h = some res) (q : Q (some (.int res.1)) res.2) : am_W (X_Model_body (d + 1)) 12 [some (.ref 0), some (.int x1)] [] h Q :=
  b_Model_body_12 (d := (d + 1)) (q := (am_rIpi (v := (-1)) e q))
theorem t_Model_body_9 {d : Nat} {x1 : Int32} {y0 : Bool} {h : am_H} {Q : am_Q} {res : Int32 × am_H} (e : f_Model_body_9 h x1 y0 = some res) (q : Q (some (.int res.1)) res.2) : am_W (X_Model_body (d + 1)) 9 [some (.ref 0), some (.int x1)] [.int (am_b y0)] h Q :=
  b_Model_body_9 (d := (d + 1)) (kt := fun c => (t_Model_body_14 (am_ift e (am_bn c)) q)) (kf := fun c => (t_Model_body_12 (am_iff e (am_bz c)) q))
theorem t_Model_body_0 {d : Nat} {x1 : Int32} {h : am_H} {Q : am_Q} {res : Int32 × am_H} (e : f_Model_body h x1 = some res) (q : Q (some (.int res.1)) res.2) : am_W (X_Model_body (d + 1)) 0 [some (.ref 0), some (.int x1)] [] h Q :=
  b_Model_body_0 (d := d) (k := c_Model_within (d := d) rfl (t_Model_body_9 e q))
theorem c_Model_body {d : Nat} {x1 : Int32} {h : am_H} {Q : am_Q} {res : Int32 × am_H} (e : f_Model_body h x1 = some res) (q : Q (some (.int res.1)) res.2) : m_Model_body (d + 1) [.ref 0, .int x1] h Q :=
  e_Model_body (t_Model_body_0 e q)
theorem d_Model_above_0 : decode prog_12_method_79_code 0 = .ok (.iload_n 0, 1) := by decide +kernel
theorem d_Model_above_1 : decode prog_12_method_79_code 1 = .ok (.iconst 3, 1) := by decide +kernel
theorem d_Model_above_2 : decode prog_12_method_79_code 2 = .ok (.if_icmp .ne 7, 3) := by decide +kernel
theorem d_Model_above_5 : decode prog_12_method_79_code 5 = .ok (.iconst 2, 1) := by decide +kernel
theorem d_Model_above_6 : decode prog_12_method_79_code 6 = .ok (.goto 32, 3) := by decide +kernel
theorem d_Model_above_9 : decode prog_12_method_79_code 9 = .ok (.iload_n 0, 1) := by decide +kernel
theorem d_Model_above_10 : decode prog_12_method_79_code 10 = .ok (.iconst 4, 1) := by decide +kernel
theorem d_Model_above_11 : decode prog_12_method_79_code 11 = .ok (.if_icmp .ne 7, 3) := by decide +kernel
theorem d_Model_above_14 : decode prog_12_method_79_code 14 = .ok (.iconst 1, 1) := by decide +kernel
theorem d_Model_above_15 : decode prog_12_method_79_code 15 = .ok (.goto 23, 3) := by decide +kernel
theorem d_Model_above_18 : decode prog_12_method_79_code 18 = .ok (.iload_n 0, 1) := by decide +kernel
theorem d_Model_above_19 : decode prog_12_method_79_code 19 = .ok (.iconst 5, 1) := by decide +kernel
theorem d_Model_above_20 : decode prog_12_method_79_code 20 = .ok (.if_icmp .ne 7, 3) := by decide +kernel
theorem d_Model_above_23 : decode prog_12_method_79_code 23 = .ok (.iconst 3, 1) := by decide +kernel
theorem d_Model_above_24 : decode prog_12_method_79_code 24 = .ok (.goto 14, 3) := by decide +kernel
theorem d_Model_above_27 : decode prog_12_method_79_code 27 = .ok (.iload_n 0, 1) := by decide +kernel
theorem d_Model_above_28 : decode prog_12_method_79_code 28 = .ok (.bipush 7, 2) := by decide +kernel
theorem d_Model_above_30 : decode prog_12_method_79_code 30 = .ok (.if_icmp .ne 7, 3) := by decide +kernel
theorem d_Model_above_33 : decode prog_12_method_79_code 33 = .ok (.iconst 4, 1) := by decide +kernel
theorem d_Model_above_34 : decode prog_12_method_79_code 34 = .ok (.goto 4, 3) := by decide +kernel
theorem d_Model_above_37 : decode prog_12_method_79_code 37 = .ok (.iconst 0, 1) := by decide +kernel
theorem d_Model_above_38 : decode prog_12_method_79_code 38 = .ok (.ireturn, 1) := by decide +kernel
theorem b_Model_above_0 {d : Nat} {x0 : Int32} {h : am_H} {Q : am_Q} (kt : ¬ x0 = 3 → am_W (X_Model_above d) 9 [some (.int x0)] [] h Q) (kf : x0 = 3 → am_W (X_Model_above d) 5 [some (.int x0)] [] h Q) : am_W (X_Model_above d) 0 [some (.int x0)] [] h Q :=
  am_iload_n d_Model_above_0 rfl (i := 0) rfl <|
    am_iconst (v := 3) d_Model_above_1 (by decide) <|
    am_icmp_ne (tgt := 9) d_Model_above_2 (by decide) kt kf
theorem b_Model_above_5 {d : Nat} {x0 : Int32} {h : am_H} {Q : am_Q} (q : Q (some (.int 2)) h) : am_W (X_Model_above d) 5 [some (.int x0)] [] h Q :=
  am_iconst (v := 2) d_Model_above_5 (by decide) <|
    am_goto (tgt := 38) d_Model_above_6 (by decide) <|
    am_iret rfl d_Model_above_38 q
theorem b_Model_above_9 {d : Nat} {x0 : Int32} {h : am_H} {Q : am_Q} (kt : ¬ x0 = 4 → am_W (X_Model_above d) 18 [some (.int x0)] [] h Q) (kf : x0 = 4 → am_W (X_Model_above d) 14 [some (.int x0)] [] h Q) : am_W (X_Model_above d) 9 [some (.int x0)] [] h Q :=
  am_iload_n d_Model_above_9 rfl (i := 0) rfl <|
    am_iconst (v := 4) d_Model_above_10 (by decide) <|
    am_icmp_ne (tgt := 18) d_Model_above_11 (by decide) kt kf
theorem b_Model_above_14 {d : Nat} {x0 : Int32} {h : am_H} {Q : am_Q} (q : Q (some (.int 1)) h) : am_W (X_Model_above d) 14 [some (.int x0)] [] h Q :=
  am_iconst (v := 1) d_Model_above_14 (by decide) <|
    am_goto (tgt := 38) d_Model_above_15 (by decide) <|
    am_iret rfl d_Model_above_38 q
theorem b_Model_above_18 {d : Nat} {x0 : Int32} {h : am_H} {Q : am_Q} (kt : ¬ x0 = 5 → am_W (X_Model_above d) 27 [some (.int x0)] [] h Q) (kf : x0 = 5 → am_W (X_Model_above d) 23 [some (.int x0)] [] h Q) : am_W (X_Model_above d) 18 [some (.int x0)] [] h Q :=
  am_iload_n d_Model_above_18 rfl (i := 0) rfl <|
    am_iconst (v := 5) d_Model_above_19 (by decide) <|
    am_icmp_ne (tgt := 27) d_Model_above_20 (by decide) kt kf
theorem b_Model_above_23 {d : Nat} {x0 : Int32} {h : am_H} {Q : am_Q} (q : Q (some (.int 3)) h) : am_W (X_Model_above d) 23 [some (.int x0)] [] h Q :=
  am_iconst (v := 3) d_Model_above_23 (by decide) <|
    am_goto (tgt := 38) d_Model_above_24 (by decide) <|
    am_iret rfl d_Model_above_38 q
theorem b_Model_above_27 {d : Nat} {x0 : Int32} {h : am_H} {Q : am_Q} (kt : ¬ x0 = 7 → am_W (X_Model_above d) 37 [some (.int x0)] [] h Q) (kf : x0 = 7 → am_W (X_Model_above d) 33 [some (.int x0)] [] h Q) : am_W (X_Model_above d) 27 [some (.int x0)] [] h Q :=
  am_iload_n d_Model_above_27 rfl (i := 0) rfl <|
    am_bipush (v := 7) d_Model_above_28 (by decide) <|
    am_icmp_ne (tgt := 37) d_Model_above_30 (by decide) kt kf
theorem b_Model_above_33 {d : Nat} {x0 : Int32} {h : am_H} {Q : am_Q} (q : Q (some (.int 4)) h) : am_W (X_Model_above d) 33 [some (.int x0)] [] h Q :=
  am_iconst (v := 4) d_Model_above_33 (by decide) <|
    am_goto (tgt := 38) d_Model_above_34 (by decide) <|
    am_iret rfl d_Model_above_38 q
theorem b_Model_above_37 {d : Nat} {x0 : Int32} {h : am_H} {Q : am_Q} (q : Q (some (.int 0)) h) : am_W (X_Model_above d) 37 [some (.int x0)] [] h Q :=
  am_iconst (v := 0) d_Model_above_37 (by decide) <|
    am_iret rfl d_Model_above_38 q
theorem t_Model_above_37 {d : Nat} {x0 : Int32} {h : am_H} {Q : am_Q} {res : Int32} (e : f_Model_above_37 = res) (q : Q (some (.int res)) h) : am_W (X_Model_above d) 37 [some (.int x0)] [] h Q :=
  b_Model_above_37 (d := d) (q := (am_rIt (v := 0) e q))
theorem t_Model_above_33 {d : Nat} {x0 : Int32} {h : am_H} {Q : am_Q} {res : Int32} (e : f_Model_above_33 = res) (q : Q (some (.int res)) h) : am_W (X_Model_above d) 33 [some (.int x0)] [] h Q :=
  b_Model_above_33 (d := d) (q := (am_rIt (v := 4) e q))
theorem t_Model_above_27 {d : Nat} {x0 : Int32} {h : am_H} {Q : am_Q} {res : Int32} (e : f_Model_above_27 x0 = res) (q : Q (some (.int res)) h) : am_W (X_Model_above d) 27 [some (.int x0)] [] h Q :=
  b_Model_above_27 (d := d) (kt := fun c => (t_Model_above_37 (am_ife e c) q)) (kf := fun c => (t_Model_above_33 (am_ift e c) q))
theorem t_Model_above_23 {d : Nat} {x0 : Int32} {h : am_H} {Q : am_Q} {res : Int32} (e : f_Model_above_23 = res) (q : Q (some (.int res)) h) : am_W (X_Model_above d) 23 [some (.int x0)] [] h Q :=
  b_Model_above_23 (d := d) (q := (am_rIt (v := 3) e q))
theorem t_Model_above_18 {d : Nat} {x0 : Int32} {h : am_H} {Q : am_Q} {res : Int32} (e : f_Model_above_18 x0 = res) (q : Q (some (.int res)) h) : am_W (X_Model_above d) 18 [some (.int x0)] [] h Q :=
  b_Model_above_18 (d := d) (kt := fun c => (t_Model_above_27 (am_ife e c) q)) (kf := fun c => (t_Model_above_23 (am_ift e c) q))
theorem t_Model_above_14 {d : Nat} {x0 : Int32} {h : am_H} {Q : am_Q} {res : Int32} (e : f_Model_above_14 = res) (q : Q (some (.int res)) h) : am_W (X_Model_above d) 14 [some (.int x0)] [] h Q :=
  b_Model_above_14 (d := d) (q := (am_rIt (v := 1) e q))
theorem t_Model_above_9 {d : Nat} {x0 : Int32} {h : am_H} {Q : am_Q} {res : Int32} (e : f_Model_above_9 x0 = res) (q : Q (some (.int res)) h) : am_W (X_Model_above d) 9 [some (.int x0)] [] h Q :=
  b_Model_above_9 (d := d) (kt := fun c => (t_Model_above_18 (am_ife e c) q)) (kf := fun c => (t_Model_above_14 (am_ift e c) q))
theorem t_Model_above_5 {d : Nat} {x0 : Int32} {h : am_H} {Q : am_Q} {res : Int32} (e : f_Model_above_5 = res) (q : Q (some (.int res)) h) : am_W (X_Model_above d) 5 [some (.int x0)] [] h Q :=
  b_Model_above_5 (d := d) (q := (am_rIt (v := 2) e q))
theorem t_Model_above_0 {d : Nat} {x0 : Int32} {h : am_H} {Q : am_Q} {res : Int32} (e : f_Model_above x0 = res) (q : Q (some (.int res)) h) : am_W (X_Model_above d) 0 [some (.int x0)] [] h Q :=
  b_Model_above_0 (d := d) (kt := fun c => (t_Model_above_9 (am_ife e c) q)) (kf := fun c => (t_Model_above_5 (am_ift e c) q))
theorem c_Model_above {d : Nat} {x0 : Int32} {h : am_H} {Q : am_Q} {res : Int32} (e : f_Model_above x0 = res) (q : Q (some (.int res)) h) : m_Model_above d [.int x0] h Q :=
  e_Model_above (t_Model_above_0 e q)
theorem d_Model_begins_0 : decode prog_12_method_80_code 0 = .ok (.aload_n 0, 1) := by decide +kernel
theorem d_Model_begins_1 : decode prog_12_method_80_code 1 = .ok (.getfield 306, 3) := by decide +kernel
theorem d_Model_begins_4 : decode prog_12_method_80_code 4 = .ok (.bipush 24, 2) := by decide +kernel
theorem d_Model_begins_6 : decode prog_12_method_80_code 6 = .ok (.if_icmp .ge 13, 3) := by decide +kernel
theorem d_Model_begins_9 : decode prog_12_method_80_code 9 = .ok (.aload_n 0, 1) := by decide +kernel
theorem d_Model_begins_10 : decode prog_12_method_80_code 10 = .ok (.getfield 55, 3) := by decide +kernel
theorem d_Model_begins_13 : decode prog_12_method_80_code 13 = .ok (.aload_n 0, 1) := by decide +kernel
theorem d_Model_begins_14 : decode prog_12_method_80_code 14 = .ok (.getfield 306, 3) := by decide +kernel
theorem d_Model_begins_17 : decode prog_12_method_80_code 17 = .ok (.iload_n 1, 1) := by decide +kernel
theorem d_Model_begins_18 : decode prog_12_method_80_code 18 = .ok (.iastore, 1) := by decide +kernel
theorem d_Model_begins_19 : decode prog_12_method_80_code 19 = .ok (.aload_n 0, 1) := by decide +kernel
theorem d_Model_begins_20 : decode prog_12_method_80_code 20 = .ok (.dup, 1) := by decide +kernel
theorem d_Model_begins_21 : decode prog_12_method_80_code 21 = .ok (.getfield 306, 3) := by decide +kernel
theorem d_Model_begins_24 : decode prog_12_method_80_code 24 = .ok (.iconst 1, 1) := by decide +kernel
theorem d_Model_begins_25 : decode prog_12_method_80_code 25 = .ok (.iadd, 1) := by decide +kernel
theorem d_Model_begins_26 : decode prog_12_method_80_code 26 = .ok (.putfield 306, 3) := by decide +kernel
theorem d_Model_begins_29 : decode prog_12_method_80_code 29 = .ok (.return_, 1) := by decide +kernel
theorem b_Model_begins_0 {d : Nat} {x1 : Int32} {h : am_H} {Q : am_Q} (kt : 24 ≤ (h.1 0 29) → am_W (X_Model_begins d) 19 [some (.ref 0), some (.int x1)] [] h Q) (kf : ¬ 24 ≤ (h.1 0 29) → am_W (X_Model_begins d) 9 [some (.ref 0), some (.int x1)] [] h Q) : am_W (X_Model_begins d) 0 [some (.ref 0), some (.int x1)] [] h Q :=
  am_aload_n d_Model_begins_0 rfl (i := 0) rfl <|
    am_getI (ci := 10) (i := 29) rfl rfl rfl (Nat.le_of_ble_eq_true rfl) w_1347 d_Model_begins_1 <|
    am_bipush (v := 24) d_Model_begins_4 (by decide) <|
    am_icmp_ge (tgt := 19) d_Model_begins_6 (by decide) kt kf
theorem b_Model_begins_9 {d : Nat} {x1 : Int32} {h : am_H} {Q : am_Q} (q0 : vp_in (h.1 0 29) 24) (k : am_W (X_Model_begins d) 19 [some (.ref 0), some (.int x1)] [] (am_pI h 15 (h.1 0 29).toNatClampNeg x1) Q) : am_W (X_Model_begins d) 9 [some (.ref 0), some (.int x1)] [] h Q :=
  am_aload_n d_Model_begins_9 rfl (i := 0) rfl <|
    am_getR (ci := 10) (i := 28) rfl rfl rfl (Nat.le_of_ble_eq_true rfl) w_1346 d_Model_begins_10 <|
    am_aload_n d_Model_begins_13 rfl (i := 0) rfl <|
    am_getI (ci := 10) (i := 29) rfl rfl rfl (Nat.le_of_ble_eq_true rfl) w_1347 d_Model_begins_14 <|
    am_iload_n d_Model_begins_17 rfl (i := 1) rfl <|
    am_iast rfl q0 d_Model_begins_18 <|
    k
theorem b_Model_begins_19 {d : Nat} {x1 : Int32} {h : am_H} {Q : am_Q} (q : Q none (am_pI h 0 29 ((h.1 0 29) + 1))) : am_W (X_Model_begins d) 19 [some (.ref 0), some (.int x1)] [] h Q :=
  am_aload_n d_Model_begins_19 rfl (i := 0) rfl <|
    am_dupR d_Model_begins_20 <|
    am_getI (ci := 10) (i := 29) rfl rfl rfl (Nat.le_of_ble_eq_true rfl) w_1347 d_Model_begins_21 <|
    am_iconst (v := 1) d_Model_begins_24 (by decide) <|
    am_iadd d_Model_begins_25 <|
    am_putI (ci := 10) (i := 29) rfl rfl rfl (Nat.le_of_ble_eq_true rfl) w_1347 rfl rfl rfl d_Model_begins_26 <|
    am_vret rfl d_Model_begins_29 q
theorem t_Model_begins_19 {d : Nat} {x1 : Int32} {h : am_H} {Q : am_Q} {res : am_H} (e : f_Model_begins_19 h = some res) (q : Q none res) : am_W (X_Model_begins d) 19 [some (.ref 0), some (.int x1)] [] h Q :=
  b_Model_begins_19 (d := d) (q := (am_rVpi e q))
theorem t_Model_begins_9 {d : Nat} {x1 : Int32} {h : am_H} {Q : am_Q} {res : am_H} (e : f_Model_begins_9 h x1 = some res) (q : Q none res) : am_W (X_Model_begins d) 9 [some (.ref 0), some (.int x1)] [] h Q :=
  b_Model_begins_9 (d := d) (q0 := (am_okv (am_gd e))) (k := (t_Model_begins_19 (am_ga e) q))
theorem t_Model_begins_0 {d : Nat} {x1 : Int32} {h : am_H} {Q : am_Q} {res : am_H} (e : f_Model_begins h x1 = some res) (q : Q none res) : am_W (X_Model_begins d) 0 [some (.ref 0), some (.int x1)] [] h Q :=
  b_Model_begins_0 (d := d) (kt := fun c => (t_Model_begins_19 (am_ift e c) q)) (kf := fun c => (t_Model_begins_9 (am_ife e c) q))
theorem c_Model_begins {d : Nat} {x1 : Int32} {h : am_H} {Q : am_Q} {res : am_H} (e : f_Model_begins h x1 = some res) (q : Q none res) : m_Model_begins d [.ref 0, .int x1] h Q :=
  e_Model_begins (t_Model_begins_0 e q)
theorem d_Model_saysAs_0 : decode prog_12_method_81_code 0 = .ok (.iload_n 1, 1) := by decide +kernel
theorem d_Model_saysAs_1 : decode prog_12_method_81_code 1 = .ok (.iconst 1, 1) := by decide +kernel
theorem d_Model_saysAs_2 : decode prog_12_method_81_code 2 = .ok (.if_icmp .eq 14, 3) := by decide +kernel
theorem d_Model_saysAs_5 : decode prog_12_method_81_code 5 = .ok (.iload_n 1, 1) := by decide +kernel
theorem d_Model_saysAs_6 : decode prog_12_method_81_code 6 = .ok (.iconst 4, 1) := by decide +kernel
theorem d_Model_saysAs_7 : decode prog_12_method_81_code 7 = .ok (.if_icmp .eq 9, 3) := by decide +kernel
theorem d_Model_saysAs_10 : decode prog_12_method_81_code 10 = .ok (.iload_n 1, 1) := by decide +kernel
theorem d_Model_saysAs_11 : decode prog_12_method_81_code 11 = .ok (.bipush 7, 2) := by decide +kernel
theorem d_Model_saysAs_13 : decode prog_12_method_81_code 13 = .ok (.if_icmp .ne 18, 3) := by decide +kernel
theorem d_Model_saysAs_16 : decode prog_12_method_81_code 16 = .ok (.aload_n 0, 1) := by decide +kernel
theorem d_Model_saysAs_17 : decode prog_12_method_81_code 17 = .ok (.bipush 20, 2) := by decide +kernel
theorem d_Model_saysAs_19 : decode prog_12_method_81_code 19 = .ok (.invokevirtual 309, 3) := by decide +kernel
theorem d_Model_saysAs_22 : decode prog_12_method_81_code 22 = .ok (.aload_n 0, 1) := by decide +kernel
theorem d_Model_saysAs_23 : decode prog_12_method_81_code 23 = .ok (.iconst 0, 1) := by decide +kernel
theorem d_Model_saysAs_24 : decode prog_12_method_81_code 24 = .ok (.iload_n 2, 1) := by decide +kernel
theorem d_Model_saysAs_25 : decode prog_12_method_81_code 25 = .ok (.invokevirtual 312, 3) := by decide +kernel
theorem d_Model_saysAs_28 : decode prog_12_method_81_code 28 = .ok (.iconst 3, 1) := by decide +kernel
theorem d_Model_saysAs_29 : decode prog_12_method_81_code 29 = .ok (.iadd, 1) := by decide +kernel
theorem d_Model_saysAs_30 : decode prog_12_method_81_code 30 = .ok (.ireturn, 1) := by decide +kernel
theorem d_Model_saysAs_31 : decode prog_12_method_81_code 31 = .ok (.iload_n 1, 1) := by decide +kernel
theorem d_Model_saysAs_32 : decode prog_12_method_81_code 32 = .ok (.bipush 6, 2) := by decide +kernel
theorem d_Model_saysAs_34 : decode prog_12_method_81_code 34 = .ok (.if_icmp .ne 18, 3) := by decide +kernel
theorem d_Model_saysAs_37 : decode prog_12_method_81_code 37 = .ok (.aload_n 0, 1) := by decide +kernel
theorem d_Model_saysAs_38 : decode prog_12_method_81_code 38 = .ok (.bipush 70, 2) := by decide +kernel
theorem d_Model_saysAs_40 : decode prog_12_method_81_code 40 = .ok (.invokevirtual 309, 3) := by decide +kernel
theorem d_Model_saysAs_43 : decode prog_12_method_81_code 43 = .ok (.aload_n 0, 1) := by decide +kernel
theorem d_Model_saysAs_44 : decode prog_12_method_81_code 44 = .ok (.iconst 0, 1) := by decide +kernel
theorem d_Model_saysAs_45 : decode prog_12_method_81_code 45 = .ok (.iload_n 2, 1) := by decide +kernel
theorem d_Model_saysAs_46 : decode prog_12_method_81_code 46 = .ok (.invokevirtual 312, 3) := by decide +kernel
theorem d_Model_saysAs_49 : decode prog_12_method_81_code 49 = .ok (.iconst 2, 1) := by decide +kernel
theorem d_Model_saysAs_50 : decode prog_12_method_81_code 50 = .ok (.imul, 1) := by decide +kernel
theorem d_Model_saysAs_51 : decode prog_12_method_81_code 51 = .ok (.ireturn, 1) := by decide +kernel
theorem d_Model_saysAs_52 : decode prog_12_method_81_code 52 = .ok (.aload_n 0, 1) := by decide +kernel
theorem d_Model_saysAs_53 : decode prog_12_method_81_code 53 = .ok (.iconst 1, 1) := by decide +kernel
theorem d_Model_saysAs_54 : decode prog_12_method_81_code 54 = .ok (.invokevirtual 309, 3) := by decide +kernel
theorem d_Model_saysAs_57 : decode prog_12_method_81_code 57 = .ok (.iload_n 2, 1) := by decide +kernel
theorem d_Model_saysAs_58 : decode prog_12_method_81_code 58 = .ok (.aload_n 0, 1) := by decide +kernel
theorem d_Model_saysAs_59 : decode prog_12_method_81_code 59 = .ok (.getfield 315, 3) := by decide +kernel
theorem d_Model_saysAs_62 : decode prog_12_method_81_code 62 = .ok (.iadd, 1) := by decide +kernel
theorem d_Model_saysAs_63 : decode prog_12_method_81_code 63 = .ok (.ireturn, 1) := by decide +kernel
theorem b_Model_saysAs_0 {d : Nat} {x1 : Int32} {x2 : Int32} {h : am_H} {Q : am_Q} (kt : x1 = 1 → am_W (X_Model_saysAs d) 16 [some (.ref 0), some (.int x1), some (.int x2)] [] h Q) (kf : ¬ x1 = 1 → am_W (X_Model_saysAs d) 5 [some (.ref 0), some (.int x1), some (.int x2)] [] h Q) : am_W (X_Model_saysAs d) 0 [some (.ref 0), some (.int x1), some (.int x2)] [] h Q :=
  am_iload_n d_Model_saysAs_0 rfl (i := 1) rfl <|
    am_iconst (v := 1) d_Model_saysAs_1 (by decide) <|
    am_icmp_eq (tgt := 16) d_Model_saysAs_2 (by decide) kt kf
theorem b_Model_saysAs_5 {d : Nat} {x1 : Int32} {x2 : Int32} {h : am_H} {Q : am_Q} (kt : x1 = 4 → am_W (X_Model_saysAs d) 16 [some (.ref 0), some (.int x1), some (.int x2)] [] h Q) (kf : ¬ x1 = 4 → am_W (X_Model_saysAs d) 10 [some (.ref 0), some (.int x1), some (.int x2)] [] h Q) : am_W (X_Model_saysAs d) 5 [some (.ref 0), some (.int x1), some (.int x2)] [] h Q :=
  am_iload_n d_Model_saysAs_5 rfl (i := 1) rfl <|
    am_iconst (v := 4) d_Model_saysAs_6 (by decide) <|
    am_icmp_eq (tgt := 16) d_Model_saysAs_7 (by decide) kt kf
theorem b_Model_saysAs_10 {d : Nat} {x1 : Int32} {x2 : Int32} {h : am_H} {Q : am_Q} (kt : ¬ x1 = 7 → am_W (X_Model_saysAs d) 31 [some (.ref 0), some (.int x1), some (.int x2)] [] h Q) (kf : x1 = 7 → am_W (X_Model_saysAs d) 16 [some (.ref 0), some (.int x1), some (.int x2)] [] h Q) : am_W (X_Model_saysAs d) 10 [some (.ref 0), some (.int x1), some (.int x2)] [] h Q :=
  am_iload_n d_Model_saysAs_10 rfl (i := 1) rfl <|
    am_bipush (v := 7) d_Model_saysAs_11 (by decide) <|
    am_icmp_ne (tgt := 31) d_Model_saysAs_13 (by decide) kt kf
theorem b_Model_saysAs_16 {d : Nat} {x1 : Int32} {x2 : Int32} {h : am_H} {Q : am_Q} (k : m_Model_begins d [.ref 0, .int 20] h (fun r hh => am_W (X_Model_saysAs (d + 1)) 22 [some (.ref 0), some (.int x1), some (.int x2)] (r.toList ++ []) hh Q)) : am_W (X_Model_saysAs (d + 1)) 16 [some (.ref 0), some (.int x1), some (.int x2)] [] h Q :=
  am_aload_n d_Model_saysAs_16 rfl (i := 0) rfl <|
    am_bipush (v := 20) d_Model_saysAs_17 (by decide) <|
    am_callV (vs := [.int 20]) (st := []) (k := 0) (ci := 10) rfl d_Model_saysAs_19 rfl rfl w_1750 w_1752 w_75 w_94 w_1753 p_Model_begins (Nat.le_of_ble_eq_true rfl) (Nat.le_of_ble_eq_true rfl) rfl k
theorem b_Model_saysAs_22 {d : Nat} {x1 : Int32} {x2 : Int32} {h : am_H} {Q : am_Q} (k : m_Model_saysAs d [.ref 0, .int 0, .int x2] h (fun r hh => am_W (X_Model_saysAs (d + 1)) 28 [some (.ref 0), some (.int x1), some (.int x2)] (r.toList ++ []) hh Q)) : am_W (X_Model_saysAs (d + 1)) 22 [some (.ref 0), some (.int x1), some (.int x2)] [] h Q :=
  am_aload_n d_Model_saysAs_22 rfl (i := 0) rfl <|
    am_iconst (v := 0) d_Model_saysAs_23 (by decide) <|
    am_iload_n d_Model_saysAs_24 rfl (i := 2) rfl <|
    am_callV (vs := [.int 0, .int x2]) (st := []) (k := 0) (ci := 10) rfl d_Model_saysAs_25 rfl rfl w_1746 w_1748 w_74 w_94 w_1749 p_Model_saysAs (Nat.le_of_ble_eq_true rfl) (Nat.le_of_ble_eq_true rfl) rfl k
theorem b_Model_saysAs_28 {d : Nat} {x1 : Int32} {x2 : Int32} {y0 : Int32} {h : am_H} {Q : am_Q} (q : Q (some (.int (y0 + 3))) h) : am_W (X_Model_saysAs d) 28 [some (.ref 0), some (.int x1), some (.int x2)] [.int y0] h Q :=
  am_iconst (v := 3) d_Model_saysAs_28 (by decide) <|
    am_iadd d_Model_saysAs_29 <|
    am_iret rfl d_Model_saysAs_30 q
theorem b_Model_saysAs_31 {d : Nat} {x1 : Int32} {x2 : Int32} {h : am_H} {Q : am_Q} (kt : ¬ x1 = 6 → am_W (X_Model_saysAs d) 52 [some (.ref 0), some (.int x1), some (.int x2)] [] h Q) (kf : x1 = 6 → am_W (X_Model_saysAs d) 37 [some (.ref 0), some (.int x1), some (.int x2)] [] h Q) : am_W (X_Model_saysAs d) 31 [some (.ref 0), some (.int x1), some (.int x2)] [] h Q :=
  am_iload_n d_Model_saysAs_31 rfl (i := 1) rfl <|
    am_bipush (v := 6) d_Model_saysAs_32 (by decide) <|
    am_icmp_ne (tgt := 52) d_Model_saysAs_34 (by decide) kt kf
theorem b_Model_saysAs_37 {d : Nat} {x1 : Int32} {x2 : Int32} {h : am_H} {Q : am_Q} (k : m_Model_begins d [.ref 0, .int 70] h (fun r hh => am_W (X_Model_saysAs (d + 1)) 43 [some (.ref 0), some (.int x1), some (.int x2)] (r.toList ++ []) hh Q)) : am_W (X_Model_saysAs (d + 1)) 37 [some (.ref 0), some (.int x1), some (.int x2)] [] h Q :=
  am_aload_n d_Model_saysAs_37 rfl (i := 0) rfl <|
    am_bipush (v := 70) d_Model_saysAs_38 (by decide) <|
    am_callV (vs := [.int 70]) (st := []) (k := 0) (ci := 10) rfl d_Model_saysAs_40 rfl rfl w_1750 w_1752 w_75 w_94 w_1753 p_Model_begins (Nat.le_of_ble_eq_true rfl) (Nat.le_of_ble_eq_true rfl) rfl k
theorem b_Model_saysAs_43 {d : Nat} {x1 : Int32} {x2 : Int32} {h : am_H} {Q : am_Q} (k : m_Model_saysAs d [.ref 0, .int 0, .int x2] h (fun r hh => am_W (X_Model_saysAs (d + 1)) 49 [some (.ref 0), some (.int x1), some (.int x2)] (r.toList ++ []) hh Q)) : am_W (X_Model_saysAs (d + 1)) 43 [some (.ref 0), some (.int x1), some (.int x2)] [] h Q :=
  am_aload_n d_Model_saysAs_43 rfl (i := 0) rfl <|
    am_iconst (v := 0) d_Model_saysAs_44 (by decide) <|
    am_iload_n d_Model_saysAs_45 rfl (i := 2) rfl <|
    am_callV (vs := [.int 0, .int x2]) (st := []) (k := 0) (ci := 10) rfl d_Model_saysAs_46 rfl rfl w_1746 w_1748 w_74 w_94 w_1749 p_Model_saysAs (Nat.le_of_ble_eq_true rfl) (Nat.le_of_ble_eq_true rfl) rfl k
theorem b_Model_saysAs_49 {d : Nat} {x1 : Int32} {x2 : Int32} {y0 : Int32} {h : am_H} {Q : am_Q} (q : Q (some (.int (y0 * 2))) h) : am_W (X_Model_saysAs d) 49 [some (.ref 0), some (.int x1), some (.int x2)] [.int y0] h Q :=
  am_iconst (v := 2) d_Model_saysAs_49 (by decide) <|
    am_imul d_Model_saysAs_50 <|
    am_iret rfl d_Model_saysAs_51 q
theorem b_Model_saysAs_52 {d : Nat} {x1 : Int32} {x2 : Int32} {h : am_H} {Q : am_Q} (k : m_Model_begins d [.ref 0, .int 1] h (fun r hh => am_W (X_Model_saysAs (d + 1)) 57 [some (.ref 0), some (.int x1), some (.int x2)] (r.toList ++ []) hh Q)) : am_W (X_Model_saysAs (d + 1)) 52 [some (.ref 0), some (.int x1), some (.int x2)] [] h Q :=
  am_aload_n d_Model_saysAs_52 rfl (i := 0) rfl <|
    am_iconst (v := 1) d_Model_saysAs_53 (by decide) <|
    am_callV (vs := [.int 1]) (st := []) (k := 0) (ci := 10) rfl d_Model_saysAs_54 rfl rfl w_1750 w_1752 w_75 w_94 w_1753 p_Model_begins (Nat.le_of_ble_eq_true rfl) (Nat.le_of_ble_eq_true rfl) rfl k
theorem b_Model_saysAs_57 {d : Nat} {x1 : Int32} {x2 : Int32} {h : am_H} {Q : am_Q} (q : Q (some (.int (x2 + (h.1 0 31)))) h) : am_W (X_Model_saysAs d) 57 [some (.ref 0), some (.int x1), some (.int x2)] [] h Q :=
  am_iload_n d_Model_saysAs_57 rfl (i := 2) rfl <|
    am_aload_n d_Model_saysAs_58 rfl (i := 0) rfl <|
    am_getI (ci := 10) (i := 31) rfl rfl rfl (Nat.le_of_ble_eq_true rfl) w_1349 d_Model_saysAs_59 <|
    am_iadd d_Model_saysAs_62 <|
    am_iret rfl d_Model_saysAs_63 q
theorem t_Model_saysAs_28 {d : Nat} {rc : rc_Model_saysAs} {x1 : Int32} {x2 : Int32} {y0 : Int32} {h : am_H} {Q : am_Q} {res : Int32 × am_H} (hr0 : ∀ {x1 : Int32} {x2 : Int32} {h : am_H} {Q : am_Q} {res : Int32 × am_H}, rc h x1 x2 = some res → Q (some (.int res.1)) res.2 → m_Model_saysAs (d + 0) [.ref 0, .int x1, .int x2] h Q) (e : f_Model_saysAs_28 rc h y0 = some res) (q : Q (some (.int res.1)) res.2) : am_W (X_Model_saysAs (d + 0 + 1)) 28 [some (.ref 0), some (.int x1), some (.int x2)] [.int y0] h Q :=
  b_Model_saysAs_28 (d := (d + 0 + 1)) (q := (am_rIpi (v := (y0 + 3)) e q))
theorem t_Model_saysAs_22 {d : Nat} {rc : rc_Model_saysAs} {x1 : Int32} {x2 : Int32} {h : am_H} {Q : am_Q} {res : Int32 × am_H} (hr0 : ∀ {x1 : Int32} {x2 : Int32} {h : am_H} {Q : am_Q} {res : Int32 × am_H}, rc h x1 x2 = some res → Q (some (.int res.1)) res.2 → m_Model_saysAs (d + 0) [.ref 0, .int x1, .int x2] h Q) (e : f_Model_saysAs_22 rc h x2 = some res) (q : Q (some (.int res.1)) res.2) : am_W (X_Model_saysAs (d + 0 + 1)) 22 [some (.ref 0), some (.int x1), some (.int x2)] [] h Q :=
  (am_bd e).elim fun p hp => b_Model_saysAs_22 (d := (d + 0)) (k := hr0 hp.1 (t_Model_saysAs_28 hr0 hp.2 q))
theorem t_Model_saysAs_16 {d : Nat} {rc : rc_Model_saysAs} {x1 : Int32} {x2 : Int32} {h : am_H} {Q : am_Q} {res : Int32 × am_H} (hr0 : ∀ {x1 : Int32} {x2 : Int32} {h : am_H} {Q : am_Q} {res : Int32 × am_H}, rc h x1 x2 = some res → Q (some (.int res.1)) res.2 → m_Model_saysAs (d + 0) [.ref 0, .int x1, .int x2] h Q) (e : f_Model_saysAs_16 rc h x2 = some res) (q : Q (some (.int res.1)) res.2) : am_W (X_Model_saysAs (d + 0 + 1)) 16 [some (.ref 0), some (.int x1), some (.int x2)] [] h Q :=
  (am_bd e).elim fun p hp => b_Model_saysAs_16 (d := (d + 0)) (k := c_Model_begins (d := d) hp.1 (t_Model_saysAs_22 hr0 hp.2 q))
theorem t_Model_saysAs_57 {d : Nat} {rc : rc_Model_saysAs} {x1 : Int32} {x2 : Int32} {h : am_H} {Q : am_Q} {res : Int32 × am_H} (hr0 : ∀ {x1 : Int32} {x2 : Int32} {h : am_H} {Q : am_Q} {res : Int32 × am_H}, rc h x1 x2 = some res → Q (some (.int res.1)) res.2 → m_Model_saysAs (d + 0) [.ref 0, .int x1, .int x2] h Q) (e : f_Model_saysAs_57 rc h x2 = some res) (q : Q (some (.int res.1)) res.2) : am_W (X_Model_saysAs (d + 0 + 1)) 57 [some (.ref 0), some (.int x1), some (.int x2)] [] h Q :=
  b_Model_saysAs_57 (d := (d + 0 + 1)) (q := (am_rIpi (v := (x2 + (h.1 0 31))) e q))
theorem t_Model_saysAs_52 {d : Nat} {rc : rc_Model_saysAs} {x1 : Int32} {x2 : Int32} {h : am_H} {Q : am_Q} {res : Int32 × am_H} (hr0 : ∀ {x1 : Int32} {x2 : Int32} {h : am_H} {Q : am_Q} {res : Int32 × am_H}, rc h x1 x2 = some res → Q (some (.int res.1)) res.2 → m_Model_saysAs (d + 0) [.ref 0, .int x1, .int x2] h Q) (e : f_Model_saysAs_52 rc h x2 = some res) (q : Q (some (.int res.1)) res.2) : am_W (X_Model_saysAs (d + 0 + 1)) 52 [some (.ref 0), some (.int x1), some (.int x2)] [] h Q :=
  (am_bd e).elim fun p hp => b_Model_saysAs_52 (d := (d + 0)) (k := c_Model_begins (d := d) hp.1 (t_Model_saysAs_57 hr0 hp.2 q))
theorem t_Model_saysAs_49 {d : Nat} {rc : rc_Model_saysAs} {x1 : Int32} {x2 : Int32} {y0 : Int32} {h : am_H} {Q : am_Q} {res : Int32 × am_H} (hr0 : ∀ {x1 : Int32} {x2 : Int32} {h : am_H} {Q : am_Q} {res : Int32 × am_H}, rc h x1 x2 = some res → Q (some (.int res.1)) res.2 → m_Model_saysAs (d + 0) [.ref 0, .int x1, .int x2] h Q) (e : f_Model_saysAs_49 rc h y0 = some res) (q : Q (some (.int res.1)) res.2) : am_W (X_Model_saysAs (d + 0 + 1)) 49 [some (.ref 0), some (.int x1), some (.int x2)] [.int y0] h Q :=
  b_Model_saysAs_49 (d := (d + 0 + 1)) (q := (am_rIpi (v := (y0 * 2)) e q))
theorem t_Model_saysAs_43 {d : Nat} {rc : rc_Model_saysAs} {x1 : Int32} {x2 : Int32} {h : am_H} {Q : am_Q} {res : Int32 × am_H} (hr0 : ∀ {x1 : Int32} {x2 : Int32} {h : am_H} {Q : am_Q} {res : Int32 × am_H}, rc h x1 x2 = some res → Q (some (.int res.1)) res.2 → m_Model_saysAs (d + 0) [.ref 0, .int x1, .int x2] h Q) (e : f_Model_saysAs_43 rc h x2 = some res) (q : Q (some (.int res.1)) res.2) : am_W (X_Model_saysAs (d + 0 + 1)) 43 [some (.ref 0), some (.int x1), some (.int x2)] [] h Q :=
  (am_bd e).elim fun p hp => b_Model_saysAs_43 (d := (d + 0)) (k := hr0 hp.1 (t_Model_saysAs_49 hr0 hp.2 q))
theorem t_Model_saysAs_37 {d : Nat} {rc : rc_Model_saysAs} {x1 : Int32} {x2 : Int32} {h : am_H} {Q : am_Q} {res : Int32 × am_H} (hr0 : ∀ {x1 : Int32} {x2 : Int32} {h : am_H} {Q : am_Q} {res : Int32 × am_H}, rc h x1 x2 = some res → Q (some (.int res.1)) res.2 → m_Model_saysAs (d + 0) [.ref 0, .int x1, .int x2] h Q) (e : f_Model_saysAs_37 rc h x2 = some res) (q : Q (some (.int res.1)) res.2) : am_W (X_Model_saysAs (d + 0 + 1)) 37 [some (.ref 0), some (.int x1), some (.int x2)] [] h Q :=
  (am_bd e).elim fun p hp => b_Model_saysAs_37 (d := (d + 0)) (k := c_Model_begins (d := d) hp.1 (t_Model_saysAs_43 hr0 hp.2 q))
theorem t_Model_saysAs_31 {d : Nat} {rc : rc_Model_saysAs} {x1 : Int32} {x2 : Int32} {h : am_H} {Q : am_Q} {res : Int32 × am_H} (hr0 : ∀ {x1 : Int32} {x2 : Int32} {h : am_H} {Q : am_Q} {res : Int32 × am_H}, rc h x1 x2 = some res → Q (some (.int res.1)) res.2 → m_Model_saysAs (d + 0) [.ref 0, .int x1, .int x2] h Q) (e : f_Model_saysAs_31 rc h x1 x2 = some res) (q : Q (some (.int res.1)) res.2) : am_W (X_Model_saysAs (d + 0 + 1)) 31 [some (.ref 0), some (.int x1), some (.int x2)] [] h Q :=
  b_Model_saysAs_31 (d := (d + 0 + 1)) (kt := fun c => (t_Model_saysAs_52 hr0 (am_ife e c) q)) (kf := fun c => (t_Model_saysAs_37 hr0 (am_ift e c) q))
theorem t_Model_saysAs_10 {d : Nat} {rc : rc_Model_saysAs} {x1 : Int32} {x2 : Int32} {h : am_H} {Q : am_Q} {res : Int32 × am_H} (hr0 : ∀ {x1 : Int32} {x2 : Int32} {h : am_H} {Q : am_Q} {res : Int32 × am_H}, rc h x1 x2 = some res → Q (some (.int res.1)) res.2 → m_Model_saysAs (d + 0) [.ref 0, .int x1, .int x2] h Q) (e : f_Model_saysAs_10 rc h x1 x2 = some res) (q : Q (some (.int res.1)) res.2) : am_W (X_Model_saysAs (d + 0 + 1)) 10 [some (.ref 0), some (.int x1), some (.int x2)] [] h Q :=
  b_Model_saysAs_10 (d := (d + 0 + 1)) (kt := fun c => (t_Model_saysAs_31 hr0 (am_ife e c) q)) (kf := fun c => (t_Model_saysAs_16 hr0 (am_ift e c) q))
theorem t_Model_saysAs_5 {d : Nat} {rc : rc_Model_saysAs} {x1 : Int32} {x2 : Int32} {h : am_H} {Q : am_Q} {res : Int32 × am_H} (hr0 : ∀ {x1 : Int32} {x2 : Int32} {h : am_H} {Q : am_Q} {res : Int32 × am_H}, rc h x1 x2 = some res → Q (some (.int res.1)) res.2 → m_Model_saysAs (d + 0) [.ref 0, .int x1, .int x2] h Q) (e : f_Model_saysAs_5 rc h x1 x2 = some res) (q : Q (some (.int res.1)) res.2) : am_W (X_Model_saysAs (d + 0 + 1)) 5 [some (.ref 0), some (.int x1), some (.int x2)] [] h Q :=
  b_Model_saysAs_5 (d := (d + 0 + 1)) (kt := fun c => (t_Model_saysAs_16 hr0 (am_ift e c) q)) (kf := fun c => (t_Model_saysAs_10 hr0 (am_ife e c) q))
theorem t_Model_saysAs_0 {d : Nat} {rc : rc_Model_saysAs} {x1 : Int32} {x2 : Int32} {h : am_H} {Q : am_Q} {res : Int32 × am_H} (hr0 : ∀ {x1 : Int32} {x2 : Int32} {h : am_H} {Q : am_Q} {res : Int32 × am_H}, rc h x1 x2 = some res → Q (some (.int res.1)) res.2 → m_Model_saysAs (d + 0) [.ref 0, .int x1, .int x2] h Q) (e : f_Model_saysAs_0 rc h x1 x2 = some res) (q : Q (some (.int res.1)) res.2) : am_W (X_Model_saysAs (d + 0 + 1)) 0 [some (.ref 0), some (.int x1), some (.int x2)] [] h Q :=
  b_Model_saysAs_0 (d := (d + 0 + 1)) (kt := fun c => (t_Model_saysAs_16 hr0 (am_ift e c) q)) (kf := fun c => (t_Model_saysAs_5 hr0 (am_ife e c) q))
theorem s_Model_saysAs : ∀ (n : Nat) {d D : Nat}, D = d + n + 0 → (∀ {x1 : Int32} {x2 : Int32} {h : am_H} {Q : am_Q} {res : Int32 × am_H}, (g_Model_saysAs n) h x1 x2 = some res → Q (some (.int res.1)) res.2 → m_Model_saysAs D [.ref 0, .int x1, .int x2] h Q) := by
  intro n
  induction n with
  | zero =>
    intro d D hD
    skip
    · intro x1 x2 h Q res  e q; exact am_nn e
  | succ n ih =>
    intro d D hD
    obtain rfl : D = d + n + 0 + 1 := by omega
    have i0 := @ih d _ rfl
    skip
    · intro x1 x2 h Q res  e q; exact e_Model_saysAs (t_Model_saysAs_0 (d := d + n) @i0 e q)

theorem c_Model_saysAs {d : Nat} {x1 : Int32} {x2 : Int32} {h : am_H} {Q : am_Q} {res : Int32 × am_H} (e : f_Model_saysAs h x1 x2 = some res) (q : Q (some (.int res.1)) res.2) : m_Model_saysAs (d + 64) [.ref 0, .int x1, .int x2] h Q :=
  (s_Model_saysAs 64 (d := d) (D := d + 64) rfl) e q
theorem d_Model_liesAs_0 : decode prog_12_method_83_code 0 = .ok (.iload_n 1, 1) := by decide +kernel
theorem d_Model_liesAs_1 : decode prog_12_method_83_code 1 = .ok (.iconst 3, 1) := by decide +kernel
theorem d_Model_liesAs_2 : decode prog_12_method_83_code 2 = .ok (.if_icmp .eq 8, 3) := by decide +kernel
theorem d_Model_liesAs_5 : decode prog_12_method_83_code 5 = .ok (.iload_n 1, 1) := by decide +kernel
theorem d_Model_liesAs_6 : decode prog_12_method_83_code 6 = .ok (.iconst 5, 1) := by decide +kernel
theorem d_Model_liesAs_7 : decode prog_12_method_83_code 7 = .ok (.if_icmp .ne 18, 3) := by decide +kernel
theorem d_Model_liesAs_10 : decode prog_12_method_83_code 10 = .ok (.aload_n 0, 1) := by decide +kernel
theorem d_Model_liesAs_11 : decode prog_12_method_83_code 11 = .ok (.bipush 40, 2) := by decide +kernel
theorem d_Model_liesAs_13 : decode prog_12_method_83_code 13 = .ok (.invokevirtual 309, 3) := by decide +kernel
theorem d_Model_liesAs_16 : decode prog_12_method_83_code 16 = .ok (.aload_n 0, 1) := by decide +kernel
theorem d_Model_liesAs_17 : decode prog_12_method_83_code 17 = .ok (.iconst 2, 1) := by decide +kernel
theorem d_Model_liesAs_18 : decode prog_12_method_83_code 18 = .ok (.iload_n 2, 1) := by decide +kernel
theorem d_Model_liesAs_19 : decode prog_12_method_83_code 19 = .ok (.invokevirtual 324, 3) := by decide +kernel
theorem d_Model_liesAs_22 : decode prog_12_method_83_code 22 = .ok (.iconst 3, 1) := by decide +kernel
theorem d_Model_liesAs_23 : decode prog_12_method_83_code 23 = .ok (.imul, 1) := by decide +kernel
theorem d_Model_liesAs_24 : decode prog_12_method_83_code 24 = .ok (.ireturn, 1) := by decide +kernel
theorem d_Model_liesAs_25 : decode prog_12_method_83_code 25 = .ok (.iload_n 1, 1) := by decide +kernel
theorem d_Model_liesAs_26 : decode prog_12_method_83_code 26 = .ok (.iconst 4, 1) := by decide +kernel
theorem d_Model_liesAs_27 : decode prog_12_method_83_code 27 = .ok (.if_icmp .eq 9, 3) := by decide +kernel
theorem d_Model_liesAs_30 : decode prog_12_method_83_code 30 = .ok (.iload_n 1, 1) := by decide +kernel
theorem d_Model_liesAs_31 : decode prog_12_method_83_code 31 = .ok (.bipush 7, 2) := by decide +kernel
theorem d_Model_liesAs_33 : decode prog_12_method_83_code 33 = .ok (.if_icmp .ne 28, 3) := by decide +kernel
theorem d_Model_liesAs_36 : decode prog_12_method_83_code 36 = .ok (.aload_n 0, 1) := by decide +kernel
theorem d_Model_liesAs_37 : decode prog_12_method_83_code 37 = .ok (.bipush 50, 2) := by decide +kernel
theorem d_Model_liesAs_39 : decode prog_12_method_83_code 39 = .ok (.invokevirtual 309, 3) := by decide +kernel
theorem d_Model_liesAs_42 : decode prog_12_method_83_code 42 = .ok (.aload_n 0, 1) := by decide +kernel
theorem d_Model_liesAs_43 : decode prog_12_method_83_code 43 = .ok (.iconst 1, 1) := by decide +kernel
theorem d_Model_liesAs_44 : decode prog_12_method_83_code 44 = .ok (.iload_n 2, 1) := by decide +kernel
theorem d_Model_liesAs_45 : decode prog_12_method_83_code 45 = .ok (.invokevirtual 324, 3) := by decide +kernel
theorem d_Model_liesAs_48 : decode prog_12_method_83_code 48 = .ok (.istore_n 3, 1) := by decide +kernel
theorem d_Model_liesAs_49 : decode prog_12_method_83_code 49 = .ok (.iload_n 3, 1) := by decide +kernel
theorem d_Model_liesAs_50 : decode prog_12_method_83_code 50 = .ok (.aload_n 0, 1) := by decide +kernel
theorem d_Model_liesAs_51 : decode prog_12_method_83_code 51 = .ok (.aload_n 0, 1) := by decide +kernel
theorem d_Model_liesAs_52 : decode prog_12_method_83_code 52 = .ok (.getfield 321, 3) := by decide +kernel
theorem d_Model_liesAs_55 : decode prog_12_method_83_code 55 = .ok (.iconst 2, 1) := by decide +kernel
theorem d_Model_liesAs_56 : decode prog_12_method_83_code 56 = .ok (.invokevirtual 312, 3) := by decide +kernel
theorem d_Model_liesAs_59 : decode prog_12_method_83_code 59 = .ok (.isub, 1) := by decide +kernel
theorem d_Model_liesAs_60 : decode prog_12_method_83_code 60 = .ok (.ireturn, 1) := by decide +kernel
theorem d_Model_liesAs_61 : decode prog_12_method_83_code 61 = .ok (.aload_n 0, 1) := by decide +kernel
theorem d_Model_liesAs_62 : decode prog_12_method_83_code 62 = .ok (.bipush 11, 2) := by decide +kernel
theorem d_Model_liesAs_64 : decode prog_12_method_83_code 64 = .ok (.invokevirtual 309, 3) := by decide +kernel
theorem d_Model_liesAs_67 : decode prog_12_method_83_code 67 = .ok (.iload_n 2, 1) := by decide +kernel
theorem d_Model_liesAs_68 : decode prog_12_method_83_code 68 = .ok (.aload_n 0, 1) := by decide +kernel
theorem d_Model_liesAs_69 : decode prog_12_method_83_code 69 = .ok (.getfield 315, 3) := by decide +kernel
theorem d_Model_liesAs_72 : decode prog_12_method_83_code 72 = .ok (.ixor, 1) := by decide +kernel
theorem d_Model_liesAs_73 : decode prog_12_method_83_code 73 = .ok (.ireturn, 1) := by decide +kernel
theorem b_Model_liesAs_0 {d : Nat} {x1 : Int32} {x2 : Int32} {h : am_H} {Q : am_Q} (kt : x1 = 3 → am_W (X_Model_liesAs d) 10 [some (.ref 0), some (.int x1), some (.int x2), none] [] h Q) (kf : ¬ x1 = 3 → am_W (X_Model_liesAs d) 5 [some (.ref 0), some (.int x1), some (.int x2), none] [] h Q) : am_W (X_Model_liesAs d) 0 [some (.ref 0), some (.int x1), some (.int x2), none] [] h Q :=
  am_iload_n d_Model_liesAs_0 rfl (i := 1) rfl <|
    am_iconst (v := 3) d_Model_liesAs_1 (by decide) <|
    am_icmp_eq (tgt := 10) d_Model_liesAs_2 (by decide) kt kf
theorem b_Model_liesAs_5 {d : Nat} {x1 : Int32} {x2 : Int32} {h : am_H} {Q : am_Q} (kt : ¬ x1 = 5 → am_W (X_Model_liesAs d) 25 [some (.ref 0), some (.int x1), some (.int x2), none] [] h Q) (kf : x1 = 5 → am_W (X_Model_liesAs d) 10 [some (.ref 0), some (.int x1), some (.int x2), none] [] h Q) : am_W (X_Model_liesAs d) 5 [some (.ref 0), some (.int x1), some (.int x2), none] [] h Q :=
  am_iload_n d_Model_liesAs_5 rfl (i := 1) rfl <|
    am_iconst (v := 5) d_Model_liesAs_6 (by decide) <|
    am_icmp_ne (tgt := 25) d_Model_liesAs_7 (by decide) kt kf
theorem b_Model_liesAs_10 {d : Nat} {x1 : Int32} {x2 : Int32} {h : am_H} {Q : am_Q} (k : m_Model_begins d [.ref 0, .int 40] h (fun r hh => am_W (X_Model_liesAs (d + 1)) 16 [some (.ref 0), some (.int x1), some (.int x2), none] (r.toList ++ []) hh Q)) : am_W (X_Model_liesAs (d + 1)) 10 [some (.ref 0), some (.int x1), some (.int x2), none] [] h Q :=
  am_aload_n d_Model_liesAs_10 rfl (i := 0) rfl <|
    am_bipush (v := 40) d_Model_liesAs_11 (by decide) <|
    am_callV (vs := [.int 40]) (st := []) (k := 0) (ci := 10) rfl d_Model_liesAs_13 rfl rfl w_1750 w_1752 w_75 w_94 w_1753 p_Model_begins (Nat.le_of_ble_eq_true rfl) (Nat.le_of_ble_eq_true rfl) rfl k
theorem b_Model_liesAs_16 {d : Nat} {x1 : Int32} {x2 : Int32} {h : am_H} {Q : am_Q} (k : m_Model_liesAs d [.ref 0, .int 2, .int x2] h (fun r hh => am_W (X_Model_liesAs (d + 1)) 22 [some (.ref 0), some (.int x1), some (.int x2), none] (r.toList ++ []) hh Q)) : am_W (X_Model_liesAs (d + 1)) 16 [some (.ref 0), some (.int x1), some (.int x2), none] [] h Q :=
  am_aload_n d_Model_liesAs_16 rfl (i := 0) rfl <|
    am_iconst (v := 2) d_Model_liesAs_17 (by decide) <|
    am_iload_n d_Model_liesAs_18 rfl (i := 2) rfl <|
    am_callV (vs := [.int 2, .int x2]) (st := []) (k := 0) (ci := 10) rfl d_Model_liesAs_19 rfl rfl w_1758 w_1760 w_77 w_94 w_1761 p_Model_liesAs (Nat.le_of_ble_eq_true rfl) (Nat.le_of_ble_eq_true rfl) rfl k
theorem b_Model_liesAs_22 {d : Nat} {x1 : Int32} {x2 : Int32} {y0 : Int32} {h : am_H} {Q : am_Q} (q : Q (some (.int (y0 * 3))) h) : am_W (X_Model_liesAs d) 22 [some (.ref 0), some (.int x1), some (.int x2), none] [.int y0] h Q :=
  am_iconst (v := 3) d_Model_liesAs_22 (by decide) <|
    am_imul d_Model_liesAs_23 <|
    am_iret rfl d_Model_liesAs_24 q
theorem b_Model_liesAs_25 {d : Nat} {x1 : Int32} {x2 : Int32} {h : am_H} {Q : am_Q} (kt : x1 = 4 → am_W (X_Model_liesAs d) 36 [some (.ref 0), some (.int x1), some (.int x2), none] [] h Q) (kf : ¬ x1 = 4 → am_W (X_Model_liesAs d) 30 [some (.ref 0), some (.int x1), some (.int x2), none] [] h Q) : am_W (X_Model_liesAs d) 25 [some (.ref 0), some (.int x1), some (.int x2), none] [] h Q :=
  am_iload_n d_Model_liesAs_25 rfl (i := 1) rfl <|
    am_iconst (v := 4) d_Model_liesAs_26 (by decide) <|
    am_icmp_eq (tgt := 36) d_Model_liesAs_27 (by decide) kt kf
theorem b_Model_liesAs_30 {d : Nat} {x1 : Int32} {x2 : Int32} {h : am_H} {Q : am_Q} (kt : ¬ x1 = 7 → am_W (X_Model_liesAs d) 61 [some (.ref 0), some (.int x1), some (.int x2), none] [] h Q) (kf : x1 = 7 → am_W (X_Model_liesAs d) 36 [some (.ref 0), some (.int x1), some (.int x2), none] [] h Q) : am_W (X_Model_liesAs d) 30 [some (.ref 0), some (.int x1), some (.int x2), none] [] h Q :=
  am_iload_n d_Model_liesAs_30 rfl (i := 1) rfl <|
    am_bipush (v := 7) d_Model_liesAs_31 (by decide) <|
    am_icmp_ne (tgt := 61) d_Model_liesAs_33 (by decide) kt kf
theorem b_Model_liesAs_36 {d : Nat} {x1 : Int32} {x2 : Int32} {h : am_H} {Q : am_Q} (k : m_Model_begins d [.ref 0, .int 50] h (fun r hh => am_W (X_Model_liesAs (d + 1)) 42 [some (.ref 0), some (.int x1), some (.int x2), none] (r.toList ++ []) hh Q)) : am_W (X_Model_liesAs (d + 1)) 36 [some (.ref 0), some (.int x1), some (.int x2), none] [] h Q :=
  am_aload_n d_Model_liesAs_36 rfl (i := 0) rfl <|
    am_bipush (v := 50) d_Model_liesAs_37 (by decide) <|
    am_callV (vs := [.int 50]) (st := []) (k := 0) (ci := 10) rfl d_Model_liesAs_39 rfl rfl w_1750 w_1752 w_75 w_94 w_1753 p_Model_begins (Nat.le_of_ble_eq_true rfl) (Nat.le_of_ble_eq_true rfl) rfl k
theorem b_Model_liesAs_42 {d : Nat} {x1 : Int32} {x2 : Int32} {h : am_H} {Q : am_Q} (k : m_Model_liesAs d [.ref 0, .int 1, .int x2] h (fun r hh => am_W (X_Model_liesAs (d + 1)) 48 [some (.ref 0), some (.int x1), some (.int x2), none] (r.toList ++ []) hh Q)) : am_W (X_Model_liesAs (d + 1)) 42 [some (.ref 0), some (.int x1), some (.int x2), none] [] h Q :=
  am_aload_n d_Model_liesAs_42 rfl (i := 0) rfl <|
    am_iconst (v := 1) d_Model_liesAs_43 (by decide) <|
    am_iload_n d_Model_liesAs_44 rfl (i := 2) rfl <|
    am_callV (vs := [.int 1, .int x2]) (st := []) (k := 0) (ci := 10) rfl d_Model_liesAs_45 rfl rfl w_1758 w_1760 w_77 w_94 w_1761 p_Model_liesAs (Nat.le_of_ble_eq_true rfl) (Nat.le_of_ble_eq_true rfl) rfl k
theorem b_Model_liesAs_48 {d : Nat} {x1 : Int32} {x2 : Int32} {y0 : Int32} {h : am_H} {Q : am_Q} (k : m_Model_saysAs d [.ref 0, .int (h.1 0 30), .int 2] h (fun r hh => am_W (X_Model_liesAs (d + 1)) 59 [some (.ref 0), some (.int x1), some (.int x2), some (.int y0)] (r.toList ++ [.int y0]) hh Q)) : am_W (X_Model_liesAs (d + 1)) 48 [some (.ref 0), some (.int x1), some (.int x2), none] [.int y0] h Q :=
  am_istore_n (ls' := [some (.ref 0), some (.int x1), some (.int x2), some (.int y0)]) d_Model_liesAs_48 rfl (Nat.le_of_ble_eq_true rfl) rfl <|
    am_iload_n d_Model_liesAs_49 rfl (i := 3) rfl <|
    am_aload_n d_Model_liesAs_50 rfl (i := 0) rfl <|
    am_aload_n d_Model_liesAs_51 rfl (i := 0) rfl <|
    am_getI (ci := 10) (i := 30) rfl rfl rfl (Nat.le_of_ble_eq_true rfl) w_1348 d_Model_liesAs_52 <|
    am_iconst (v := 2) d_Model_liesAs_55 (by decide) <|
    am_callV (vs := [.int (h.1 0 30), .int 2]) (st := [.int y0]) (k := 0) (ci := 10) rfl d_Model_liesAs_56 rfl rfl w_1746 w_1748 w_74 w_94 w_1749 p_Model_saysAs (Nat.le_of_ble_eq_true rfl) (Nat.le_of_ble_eq_true rfl) rfl k
theorem b_Model_liesAs_59 {d : Nat} {x1 : Int32} {x2 : Int32} {x3 : Int32} {y1 : Int32} {y0 : Int32} {h : am_H} {Q : am_Q} (q : Q (some (.int (y0 - y1))) h) : am_W (X_Model_liesAs d) 59 [some (.ref 0), some (.int x1), some (.int x2), some (.int x3)] [.int y1, .int y0] h Q :=
  am_isub d_Model_liesAs_59 <|
    am_iret rfl d_Model_liesAs_60 q
theorem b_Model_liesAs_61 {d : Nat} {x1 : Int32} {x2 : Int32} {h : am_H} {Q : am_Q} (k : m_Model_begins d [.ref 0, .int 11] h (fun r hh => am_W (X_Model_liesAs (d + 1)) 67 [some (.ref 0), some (.int x1), some (.int x2), none] (r.toList ++ []) hh Q)) : am_W (X_Model_liesAs (d + 1)) 61 [some (.ref 0), some (.int x1), some (.int x2), none] [] h Q :=
  am_aload_n d_Model_liesAs_61 rfl (i := 0) rfl <|
    am_bipush (v := 11) d_Model_liesAs_62 (by decide) <|
    am_callV (vs := [.int 11]) (st := []) (k := 0) (ci := 10) rfl d_Model_liesAs_64 rfl rfl w_1750 w_1752 w_75 w_94 w_1753 p_Model_begins (Nat.le_of_ble_eq_true rfl) (Nat.le_of_ble_eq_true rfl) rfl k
theorem b_Model_liesAs_67 {d : Nat} {x1 : Int32} {x2 : Int32} {h : am_H} {Q : am_Q} (q : Q (some (.int (x2 ^^^ (h.1 0 31)))) h) : am_W (X_Model_liesAs d) 67 [some (.ref 0), some (.int x1), some (.int x2), none] [] h Q :=
  am_iload_n d_Model_liesAs_67 rfl (i := 2) rfl <|
    am_aload_n d_Model_liesAs_68 rfl (i := 0) rfl <|
    am_getI (ci := 10) (i := 31) rfl rfl rfl (Nat.le_of_ble_eq_true rfl) w_1349 d_Model_liesAs_69 <|
    am_ixor d_Model_liesAs_72 <|
    am_iret rfl d_Model_liesAs_73 q
theorem t_Model_liesAs_22 {d : Nat} {rc : rc_Model_liesAs} {x1 : Int32} {x2 : Int32} {y0 : Int32} {h : am_H} {Q : am_Q} {res : Int32 × am_H} (hr0 : ∀ {x1 : Int32} {x2 : Int32} {h : am_H} {Q : am_Q} {res : Int32 × am_H}, rc h x1 x2 = some res → Q (some (.int res.1)) res.2 → m_Model_liesAs (d + 64) [.ref 0, .int x1, .int x2] h Q) (e : f_Model_liesAs_22 rc h y0 = some res) (q : Q (some (.int res.1)) res.2) : am_W (X_Model_liesAs (d + 64 + 1)) 22 [some (.ref 0), some (.int x1), some (.int x2), none] [.int y0] h Q :=
  b_Model_liesAs_22 (d := (d + 64 + 1)) (q := (am_rIpi (v := (y0 * 3)) e q))
theorem t_Model_liesAs_16 {d : Nat} {rc : rc_Model_liesAs} {x1 : Int32} {x2 : Int32} {h : am_H} {Q : am_Q} {res : Int32 × am_H} (hr0 : ∀ {x1 : Int32} {x2 : Int32} {h : am_H} {Q : am_Q} {res : Int32 × am_H}, rc h x1 x2 = some res → Q (some (.int res.1)) res.2 → m_Model_liesAs (d + 64) [.ref 0, .int x1, .int x2] h Q) (e : f_Model_liesAs_16 rc h x2 = some res) (q : Q (some (.int res.1)) res.2) : am_W (X_Model_liesAs (d + 64 + 1)) 16 [some (.ref 0), some (.int x1), some (.int x2), none] [] h Q :=
  (am_bd e).elim fun p hp => b_Model_liesAs_16 (d := (d + 64)) (k := hr0 hp.1 (t_Model_liesAs_22 hr0 hp.2 q))
theorem t_Model_liesAs_10 {d : Nat} {rc : rc_Model_liesAs} {x1 : Int32} {x2 : Int32} {h : am_H} {Q : am_Q} {res : Int32 × am_H} (hr0 : ∀ {x1 : Int32} {x2 : Int32} {h : am_H} {Q : am_Q} {res : Int32 × am_H}, rc h x1 x2 = some res → Q (some (.int res.1)) res.2 → m_Model_liesAs (d + 64) [.ref 0, .int x1, .int x2] h Q) (e : f_Model_liesAs_10 rc h x2 = some res) (q : Q (some (.int res.1)) res.2) : am_W (X_Model_liesAs (d + 64 + 1)) 10 [some (.ref 0), some (.int x1), some (.int x2), none] [] h Q :=
  (am_bd e).elim fun p hp => b_Model_liesAs_10 (d := (d + 64)) (k := c_Model_begins (d := d + 64) hp.1 (t_Model_liesAs_16 hr0 hp.2 q))
theorem t_Model_liesAs_59 {d : Nat} {rc : rc_Model_liesAs} {x1 : Int32} {x2 : Int32} {x3 : Int32} {y1 : Int32} {y0 : Int32} {h : am_H} {Q : am_Q} {res : Int32 × am_H} (hr0 : ∀ {x1 : Int32} {x2 : Int32} {h : am_H} {Q : am_Q} {res : Int32 × am_H}, rc h x1 x2 = some res → Q (some (.int res.1)) res.2 → m_Model_liesAs (d + 64) [.ref 0, .int x1, .int x2] h Q) (e : f_Model_liesAs_59 rc h y1 y0 = some res) (q : Q (some (.int res.1)) res.2) : am_W (X_Model_liesAs (d + 64 + 1)) 59 [some (.ref 0), some (.int x1), some (.int x2), some (.int x3)] [.int y1, .int y0] h Q :=
  b_Model_liesAs_59 (d := (d + 64 + 1)) (q := (am_rIpi (v := (y0 - y1)) e q))
theorem t_Model_liesAs_48 {d : Nat} {rc : rc_Model_liesAs} {x1 : Int32} {x2 : Int32} {y0 : Int32} {h : am_H} {Q : am_Q} {res : Int32 × am_H} (hr0 : ∀ {x1 : Int32} {x2 : Int32} {h : am_H} {Q : am_Q} {res : Int32 × am_H}, rc h x1 x2 = some res → Q (some (.int res.1)) res.2 → m_Model_liesAs (d + 64) [.ref 0, .int x1, .int x2] h Q) (e : f_Model_liesAs_48 rc h y0 = some res) (q : Q (some (.int res.1)) res.2) : am_W (X_Model_liesAs (d + 64 + 1)) 48 [some (.ref 0), some (.int x1), some (.int x2), none] [.int y0] h Q :=
  (am_bd e).elim fun p hp => b_Model_liesAs_48 (d := (d + 64)) (k := c_Model_saysAs (d := d) hp.1 (t_Model_liesAs_59 hr0 hp.2 q))
theorem t_Model_liesAs_42 {d : Nat} {rc : rc_Model_liesAs} {x1 : Int32} {x2 : Int32} {h : am_H} {Q : am_Q} {res : Int32 × am_H} (hr0 : ∀ {x1 : Int32} {x2 : Int32} {h : am_H} {Q : am_Q} {res : Int32 × am_H}, rc h x1 x2 = some res → Q (some (.int res.1)) res.2 → m_Model_liesAs (d + 64) [.ref 0, .int x1, .int x2] h Q) (e : f_Model_liesAs_42 rc h x2 = some res) (q : Q (some (.int res.1)) res.2) : am_W (X_Model_liesAs (d + 64 + 1)) 42 [some (.ref 0), some (.int x1), some (.int x2), none] [] h Q :=
  (am_bd e).elim fun p hp => b_Model_liesAs_42 (d := (d + 64)) (k := hr0 hp.1 (t_Model_liesAs_48 hr0 hp.2 q))
theorem t_Model_liesAs_36 {d : Nat} {rc : rc_Model_liesAs} {x1 : Int32} {x2 : Int32} {h : am_H} {Q : am_Q} {res : Int32 × am_H} (hr0 : ∀ {x1 : Int32} {x2 : Int32} {h : am_H} {Q : am_Q} {res : Int32 × am_H}, rc h x1 x2 = some res → Q (some (.int res.1)) res.2 → m_Model_liesAs (d + 64) [.ref 0, .int x1, .int x2] h Q) (e : f_Model_liesAs_36 rc h x2 = some res) (q : Q (some (.int res.1)) res.2) : am_W (X_Model_liesAs (d + 64 + 1)) 36 [some (.ref 0), some (.int x1), some (.int x2), none] [] h Q :=
  (am_bd e).elim fun p hp => b_Model_liesAs_36 (d := (d + 64)) (k := c_Model_begins (d := d + 64) hp.1 (t_Model_liesAs_42 hr0 hp.2 q))
theorem t_Model_liesAs_67 {d : Nat} {rc : rc_Model_liesAs} {x1 : Int32} {x2 : Int32} {h : am_H} {Q : am_Q} {res : Int32 × am_H} (hr0 : ∀ {x1 : Int32} {x2 : Int32} {h : am_H} {Q : am_Q} {res : Int32 × am_H}, rc h x1 x2 = some res → Q (some (.int res.1)) res.2 → m_Model_liesAs (d + 64) [.ref 0, .int x1, .int x2] h Q) (e : f_Model_liesAs_67 rc h x2 = some res) (q : Q (some (.int res.1)) res.2) : am_W (X_Model_liesAs (d + 64 + 1)) 67 [some (.ref 0), some (.int x1), some (.int x2), none] [] h Q :=
  b_Model_liesAs_67 (d := (d + 64 + 1)) (q := (am_rIpi (v := (x2 ^^^ (h.1 0 31))) e q))
theorem t_Model_liesAs_61 {d : Nat} {rc : rc_Model_liesAs} {x1 : Int32} {x2 : Int32} {h : am_H} {Q : am_Q} {res : Int32 × am_H} (hr0 : ∀ {x1 : Int32} {x2 : Int32} {h : am_H} {Q : am_Q} {res : Int32 × am_H}, rc h x1 x2 = some res → Q (some (.int res.1)) res.2 → m_Model_liesAs (d + 64) [.ref 0, .int x1, .int x2] h Q) (e : f_Model_liesAs_61 rc h x2 = some res) (q : Q (some (.int res.1)) res.2) : am_W (X_Model_liesAs (d + 64 + 1)) 61 [some (.ref 0), some (.int x1), some (.int x2), none] [] h Q :=
  (am_bd e).elim fun p hp => b_Model_liesAs_61 (d := (d + 64)) (k := c_Model_begins (d := d + 64) hp.1 (t_Model_liesAs_67 hr0 hp.2 q))
theorem t_Model_liesAs_30 {d : Nat} {rc : rc_Model_liesAs} {x1 : Int32} {x2 : Int32} {h : am_H} {Q : am_Q} {res : Int32 × am_H} (hr0 : ∀ {x1 : Int32} {x2 : Int32} {h : am_H} {Q : am_Q} {res : Int32 × am_H}, rc h x1 x2 = some res → Q (some (.int res.1)) res.2 → m_Model_liesAs (d + 64) [.ref 0, .int x1, .int x2] h Q) (e : f_Model_liesAs_30 rc h x1 x2 = some res) (q : Q (some (.int res.1)) res.2) : am_W (X_Model_liesAs (d + 64 + 1)) 30 [some (.ref 0), some (.int x1), some (.int x2), none] [] h Q :=
  b_Model_liesAs_30 (d := (d + 64 + 1)) (kt := fun c => (t_Model_liesAs_61 hr0 (am_ife e c) q)) (kf := fun c => (t_Model_liesAs_36 hr0 (am_ift e c) q))
theorem t_Model_liesAs_25 {d : Nat} {rc : rc_Model_liesAs} {x1 : Int32} {x2 : Int32} {h : am_H} {Q : am_Q} {res : Int32 × am_H} (hr0 : ∀ {x1 : Int32} {x2 : Int32} {h : am_H} {Q : am_Q} {res : Int32 × am_H}, rc h x1 x2 = some res → Q (some (.int res.1)) res.2 → m_Model_liesAs (d + 64) [.ref 0, .int x1, .int x2] h Q) (e : f_Model_liesAs_25 rc h x1 x2 = some res) (q : Q (some (.int res.1)) res.2) : am_W (X_Model_liesAs (d + 64 + 1)) 25 [some (.ref 0), some (.int x1), some (.int x2), none] [] h Q :=
  b_Model_liesAs_25 (d := (d + 64 + 1)) (kt := fun c => (t_Model_liesAs_36 hr0 (am_ift e c) q)) (kf := fun c => (t_Model_liesAs_30 hr0 (am_ife e c) q))
theorem t_Model_liesAs_5 {d : Nat} {rc : rc_Model_liesAs} {x1 : Int32} {x2 : Int32} {h : am_H} {Q : am_Q} {res : Int32 × am_H} (hr0 : ∀ {x1 : Int32} {x2 : Int32} {h : am_H} {Q : am_Q} {res : Int32 × am_H}, rc h x1 x2 = some res → Q (some (.int res.1)) res.2 → m_Model_liesAs (d + 64) [.ref 0, .int x1, .int x2] h Q) (e : f_Model_liesAs_5 rc h x1 x2 = some res) (q : Q (some (.int res.1)) res.2) : am_W (X_Model_liesAs (d + 64 + 1)) 5 [some (.ref 0), some (.int x1), some (.int x2), none] [] h Q :=
  b_Model_liesAs_5 (d := (d + 64 + 1)) (kt := fun c => (t_Model_liesAs_25 hr0 (am_ife e c) q)) (kf := fun c => (t_Model_liesAs_10 hr0 (am_ift e c) q))
theorem t_Model_liesAs_0 {d : Nat} {rc : rc_Model_liesAs} {x1 : Int32} {x2 : Int32} {h : am_H} {Q : am_Q} {res : Int32 × am_H} (hr0 : ∀ {x1 : Int32} {x2 : Int32} {h : am_H} {Q : am_Q} {res : Int32 × am_H}, rc h x1 x2 = some res → Q (some (.int res.1)) res.2 → m_Model_liesAs (d + 64) [.ref 0, .int x1, .int x2] h Q) (e : f_Model_liesAs_0 rc h x1 x2 = some res) (q : Q (some (.int res.1)) res.2) : am_W (X_Model_liesAs (d + 64 + 1)) 0 [some (.ref 0), some (.int x1), some (.int x2), none] [] h Q :=
  b_Model_liesAs_0 (d := (d + 64 + 1)) (kt := fun c => (t_Model_liesAs_10 hr0 (am_ift e c) q)) (kf := fun c => (t_Model_liesAs_5 hr0 (am_ife e c) q))
theorem s_Model_liesAs : ∀ (n : Nat) {d D : Nat}, D = d + n + 64 → (∀ {x1 : Int32} {x2 : Int32} {h : am_H} {Q : am_Q} {res : Int32 × am_H}, (g_Model_liesAs n) h x1 x2 = some res → Q (some (.int res.1)) res.2 → m_Model_liesAs D [.ref 0, .int x1, .int x2] h Q) := by
  intro n
  induction n with
  | zero =>
    intro d D hD
    skip
    · intro x1 x2 h Q res  e q; exact am_nn e
  | succ n ih =>
    intro d D hD
    obtain rfl : D = d + n + 64 + 1 := by omega
    have i0 := @ih d _ rfl
    skip
    · intro x1 x2 h Q res  e q; exact e_Model_liesAs (t_Model_liesAs_0 (d := d + n) @i0 e q)

theorem c_Model_liesAs {d : Nat} {x1 : Int32} {x2 : Int32} {h : am_H} {Q : am_Q} {res : Int32 × am_H} (e : f_Model_liesAs h x1 x2 = some res) (q : Q (some (.int res.1)) res.2) : m_Model_liesAs (d + 128) [.ref 0, .int x1, .int x2] h Q :=
  (s_Model_liesAs 64 (d := d) (D := d + 128) rfl) e q
