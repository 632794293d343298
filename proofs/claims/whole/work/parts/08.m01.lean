theorem d_Club_mend_0 : decode prog_1_method_4_code 0 = .ok (.aload_n 0, 1) := by decide +kernel
theorem d_Club_mend_1 : decode prog_1_method_4_code 1 = .ok (.getfield 12, 3) := by decide +kernel
theorem d_Club_mend_4 : decode prog_1_method_4_code 4 = .ok (.iload_n 1, 1) := by decide +kernel
theorem d_Club_mend_5 : decode prog_1_method_4_code 5 = .ok (.iload_n 2, 1) := by decide +kernel
theorem d_Club_mend_6 : decode prog_1_method_4_code 6 = .ok (.invokevirtual 109, 3) := by decide +kernel
theorem d_Club_mend_9 : decode prog_1_method_4_code 9 = .ok (.ifCond .eq 15, 3) := by decide +kernel
theorem d_Club_mend_12 : decode prog_1_method_4_code 12 = .ok (.aload_n 0, 1) := by decide +kernel
theorem d_Club_mend_13 : decode prog_1_method_4_code 13 = .ok (.getfield 12, 3) := by decide +kernel
theorem d_Club_mend_16 : decode prog_1_method_4_code 16 = .ok (.iload_n 2, 1) := by decide +kernel
theorem d_Club_mend_17 : decode prog_1_method_4_code 17 = .ok (.iload_n 3, 1) := by decide +kernel
theorem d_Club_mend_18 : decode prog_1_method_4_code 18 = .ok (.invokevirtual 113, 3) := by decide +kernel
theorem d_Club_mend_21 : decode prog_1_method_4_code 21 = .ok (.ifCond .ne 6, 3) := by decide +kernel
theorem d_Club_mend_24 : decode prog_1_method_4_code 24 = .ok (.ldc 116, 2) := by decide +kernel
theorem d_Club_mend_26 : decode prog_1_method_4_code 26 = .ok (.ireturn, 1) := by decide +kernel
theorem d_Club_mend_27 : decode prog_1_method_4_code 27 = .ok (.aload_n 0, 1) := by decide +kernel
theorem d_Club_mend_28 : decode prog_1_method_4_code 28 = .ok (.getfield 12, 3) := by decide +kernel
theorem d_Club_mend_31 : decode prog_1_method_4_code 31 = .ok (.iload_n 1, 1) := by decide +kernel
theorem d_Club_mend_32 : decode prog_1_method_4_code 32 = .ok (.iload_n 2, 1) := by decide +kernel
theorem d_Club_mend_33 : decode prog_1_method_4_code 33 = .ok (.invokevirtual 117, 3) := by decide +kernel
theorem d_Club_mend_36 : decode prog_1_method_4_code 36 = .ok (.istore 4, 2) := by decide +kernel
theorem d_Club_mend_38 : decode prog_1_method_4_code 38 = .ok (.iload 4, 2) := by decide +kernel
theorem d_Club_mend_40 : decode prog_1_method_4_code 40 = .ok (.iload_n 3, 1) := by decide +kernel
theorem d_Club_mend_41 : decode prog_1_method_4_code 41 = .ok (.if_icmp .eq 22, 3) := by decide +kernel
theorem d_Club_mend_44 : decode prog_1_method_4_code 44 = .ok (.aload_n 0, 1) := by decide +kernel
theorem d_Club_mend_45 : decode prog_1_method_4_code 45 = .ok (.getfield 62, 3) := by decide +kernel
theorem d_Club_mend_48 : decode prog_1_method_4_code 48 = .ok (.iload_n 1, 1) := by decide +kernel
theorem d_Club_mend_49 : decode prog_1_method_4_code 49 = .ok (.iload_n 2, 1) := by decide +kernel
theorem d_Club_mend_50 : decode prog_1_method_4_code 50 = .ok (.iload 4, 2) := by decide +kernel
theorem d_Club_mend_52 : decode prog_1_method_4_code 52 = .ok (.iload_n 3, 1) := by decide +kernel
theorem d_Club_mend_53 : decode prog_1_method_4_code 53 = .ok (.invokevirtual 121, 3) := by decide +kernel
theorem d_Club_mend_56 : decode prog_1_method_4_code 56 = .ok (.aload_n 0, 1) := by decide +kernel
theorem d_Club_mend_57 : decode prog_1_method_4_code 57 = .ok (.iload_n 1, 1) := by decide +kernel
theorem d_Club_mend_58 : decode prog_1_method_4_code 58 = .ok (.iload_n 2, 1) := by decide +kernel
theorem d_Club_mend_59 : decode prog_1_method_4_code 59 = .ok (.iload_n 3, 1) := by decide +kernel
theorem d_Club_mend_60 : decode prog_1_method_4_code 60 = .ok (.invokevirtual 125, 3) := by decide +kernel
theorem d_Club_mend_63 : decode prog_1_method_4_code 63 = .ok (.iload 4, 2) := by decide +kernel
theorem d_Club_mend_65 : decode prog_1_method_4_code 65 = .ok (.ireturn, 1) := by decide +kernel
theorem b_Club_mend_0 {d : Nat} {x1 : Int32} {x2 : Int32} {x3 : Int32} {h : am_H} {Q : am_Q} (k : m_Hole_hasNumber d [.ref 1, .int x1, .int x2] h (fun r hh => am_W (X_Club_mend (d + 1)) 9 [some (.ref 0), some (.int x1), some (.int x2), some (.int x3), none] (r.toList ++ []) hh Q)) : am_W (X_Club_mend (d + 1)) 0 [some (.ref 0), some (.int x1), some (.int x2), some (.int x3), none] [] h Q :=
  am_aload_n d_Club_mend_0 rfl (i := 0) rfl <|
    am_getR (ci := 0) (i := 0) rfl rfl rfl (Nat.le_of_ble_eq_true rfl) w_362 d_Club_mend_1 <|
    am_iload_n d_Club_mend_4 rfl (i := 1) rfl <|
    am_iload_n d_Club_mend_5 rfl (i := 2) rfl <|
    am_callV (vs := [.int x1, .int x2]) (st := []) (k := 1) (ci := 1) rfl d_Club_mend_6 rfl rfl w_464 w_465 w_466 w_84 w_467 p_Hole_hasNumber (Nat.le_of_ble_eq_true rfl) (Nat.le_of_ble_eq_true rfl) rfl k
theorem b_Club_mend_9 {d : Nat} {x1 : Int32} {x2 : Int32} {x3 : Int32} {y0 : Bool} {h : am_H} {Q : am_Q} (kt : (am_b y0) = 0 → am_W (X_Club_mend d) 24 [some (.ref 0), some (.int x1), some (.int x2), some (.int x3), none] [] h Q) (kf : ¬ (am_b y0) = 0 → am_W (X_Club_mend d) 12 [some (.ref 0), some (.int x1), some (.int x2), some (.int x3), none] [] h Q) : am_W (X_Club_mend d) 9 [some (.ref 0), some (.int x1), some (.int x2), some (.int x3), none] [.int (am_b y0)] h Q :=
  am_if_eq (tgt := 24) d_Club_mend_9 (by decide) kt kf
theorem b_Club_mend_12 {d : Nat} {x1 : Int32} {x2 : Int32} {x3 : Int32} {h : am_H} {Q : am_Q} (k : m_Hole_allows d [.ref 1, .int x2, .int x3] h (fun r hh => am_W (X_Club_mend (d + 1)) 21 [some (.ref 0), some (.int x1), some (.int x2), some (.int x3), none] (r.toList ++ []) hh Q)) : am_W (X_Club_mend (d + 1)) 12 [some (.ref 0), some (.int x1), some (.int x2), some (.int x3), none] [] h Q :=
  am_aload_n d_Club_mend_12 rfl (i := 0) rfl <|
    am_getR (ci := 0) (i := 0) rfl rfl rfl (Nat.le_of_ble_eq_true rfl) w_362 d_Club_mend_13 <|
    am_iload_n d_Club_mend_16 rfl (i := 2) rfl <|
    am_iload_n d_Club_mend_17 rfl (i := 3) rfl <|
    am_callV (vs := [.int x2, .int x3]) (st := []) (k := 1) (ci := 1) rfl d_Club_mend_18 rfl rfl w_475 w_476 w_477 w_84 w_478 p_Hole_allows (Nat.le_of_ble_eq_true rfl) (Nat.le_of_ble_eq_true rfl) rfl k
theorem b_Club_mend_21 {d : Nat} {x1 : Int32} {x2 : Int32} {x3 : Int32} {y0 : Bool} {h : am_H} {Q : am_Q} (kt : ¬ (am_b y0) = 0 → am_W (X_Club_mend d) 27 [some (.ref 0), some (.int x1), some (.int x2), some (.int x3), none] [] h Q) (kf : (am_b y0) = 0 → am_W (X_Club_mend d) 24 [some (.ref 0), some (.int x1), some (.int x2), some (.int x3), none] [] h Q) : am_W (X_Club_mend d) 21 [some (.ref 0), some (.int x1), some (.int x2), some (.int x3), none] [.int (am_b y0)] h Q :=
  am_if_ne (tgt := 27) d_Club_mend_21 (by decide) kt kf
theorem b_Club_mend_24 {d : Nat} {x1 : Int32} {x2 : Int32} {x3 : Int32} {h : am_H} {Q : am_Q} (q : Q (some (.int (-2000000000))) h) : am_W (X_Club_mend d) 24 [some (.ref 0), some (.int x1), some (.int x2), some (.int x3), none] [] h Q :=
  am_ldc (v := (-2000000000)) d_Club_mend_24 w_479 <|
    am_iret rfl d_Club_mend_26 q
theorem b_Club_mend_27 {d : Nat} {x1 : Int32} {x2 : Int32} {x3 : Int32} {h : am_H} {Q : am_Q} (k : m_Hole_numberAt d [.ref 1, .int x1, .int x2] h (fun r hh => am_W (X_Club_mend (d + 1)) 36 [some (.ref 0), some (.int x1), some (.int x2), some (.int x3), none] (r.toList ++ []) hh Q)) : am_W (X_Club_mend (d + 1)) 27 [some (.ref 0), some (.int x1), some (.int x2), some (.int x3), none] [] h Q :=
  am_aload_n d_Club_mend_27 rfl (i := 0) rfl <|
    am_getR (ci := 0) (i := 0) rfl rfl rfl (Nat.le_of_ble_eq_true rfl) w_362 d_Club_mend_28 <|
    am_iload_n d_Club_mend_31 rfl (i := 1) rfl <|
    am_iload_n d_Club_mend_32 rfl (i := 2) rfl <|
    am_callV (vs := [.int x1, .int x2]) (st := []) (k := 1) (ci := 1) rfl d_Club_mend_33 rfl rfl w_480 w_481 w_482 w_84 w_483 p_Hole_numberAt (Nat.le_of_ble_eq_true rfl) (Nat.le_of_ble_eq_true rfl) rfl k
theorem b_Club_mend_36 {d : Nat} {x1 : Int32} {x2 : Int32} {x3 : Int32} {y0 : Int32} {h : am_H} {Q : am_Q} (kt : y0 = x3 → am_W (X_Club_mend d) 63 [some (.ref 0), some (.int x1), some (.int x2), some (.int x3), some (.int y0)] [] h Q) (kf : ¬ y0 = x3 → am_W (X_Club_mend d) 44 [some (.ref 0), some (.int x1), some (.int x2), some (.int x3), some (.int y0)] [] h Q) : am_W (X_Club_mend d) 36 [some (.ref 0), some (.int x1), some (.int x2), some (.int x3), none] [.int y0] h Q :=
  am_istore (ls' := [some (.ref 0), some (.int x1), some (.int x2), some (.int x3), some (.int y0)]) d_Club_mend_36 (Nat.le_of_ble_eq_true rfl) rfl <|
    am_iload d_Club_mend_38 rfl <|
    am_iload_n d_Club_mend_40 rfl (i := 3) rfl <|
    am_icmp_eq (tgt := 63) d_Club_mend_41 (by decide) kt kf
theorem b_Club_mend_44 {d : Nat} {x1 : Int32} {x2 : Int32} {x3 : Int32} {x4 : Int32} {h : am_H} {Q : am_Q} (k : m_Changes_remember d [.ref 22, .int x1, .int x2, .int x4, .int x3] h (fun r hh => am_W (X_Club_mend (d + 1)) 56 [some (.ref 0), some (.int x1), some (.int x2), some (.int x3), some (.int x4)] (r.toList ++ []) hh Q)) : am_W (X_Club_mend (d + 1)) 44 [some (.ref 0), some (.int x1), some (.int x2), some (.int x3), some (.int x4)] [] h Q :=
  am_aload_n d_Club_mend_44 rfl (i := 0) rfl <|
    am_getR (ci := 0) (i := 6) rfl rfl rfl (Nat.le_of_ble_eq_true rfl) w_368 d_Club_mend_45 <|
    am_iload_n d_Club_mend_48 rfl (i := 1) rfl <|
    am_iload_n d_Club_mend_49 rfl (i := 2) rfl <|
    am_iload d_Club_mend_50 rfl <|
    am_iload_n d_Club_mend_52 rfl (i := 3) rfl <|
    am_callV (vs := [.int x1, .int x2, .int x4, .int x3]) (st := []) (k := 22) (ci := 7) rfl d_Club_mend_53 rfl rfl w_485 w_486 w_487 w_91 w_488 p_Changes_remember (Nat.le_of_ble_eq_true rfl) (Nat.le_of_ble_eq_true rfl) rfl k
theorem b_Club_mend_56 {d : Nat} {x1 : Int32} {x2 : Int32} {x3 : Int32} {x4 : Int32} {h : am_H} {Q : am_Q} (k : m_Club_alter d [.ref 0, .int x1, .int x2, .int x3] h (fun r hh => am_W (X_Club_mend (d + 1)) 63 [some (.ref 0), some (.int x1), some (.int x2), some (.int x3), some (.int x4)] (r.toList ++ []) hh Q)) : am_W (X_Club_mend (d + 1)) 56 [some (.ref 0), some (.int x1), some (.int x2), some (.int x3), some (.int x4)] [] h Q :=
  am_aload_n d_Club_mend_56 rfl (i := 0) rfl <|
    am_iload_n d_Club_mend_57 rfl (i := 1) rfl <|
    am_iload_n d_Club_mend_58 rfl (i := 2) rfl <|
    am_iload_n d_Club_mend_59 rfl (i := 3) rfl <|
    am_callV (vs := [.int x1, .int x2, .int x3]) (st := []) (k := 0) (ci := 0) rfl d_Club_mend_60 rfl rfl w_496 w_498 w_3 w_83 w_499 p_Club_alter (Nat.le_of_ble_eq_true rfl) (Nat.le_of_ble_eq_true rfl) rfl k
theorem b_Club_mend_63 {d : Nat} {x1 : Int32} {x2 : Int32} {x3 : Int32} {x4 : Int32} {h : am_H} {Q : am_Q} (q : Q (some (.int x4)) h) : am_W (X_Club_mend d) 63 [some (.ref 0), some (.int x1), some (.int x2), some (.int x3), some (.int x4)] [] h Q :=
  am_iload d_Club_mend_63 rfl <|
    am_iret rfl d_Club_mend_65 q
theorem t_Club_mend_24 {d : Nat} {x1 : Int32} {x2 : Int32} {x3 : Int32} {h : am_H} {Q : am_Q} {res : Int32 × am_H} (e : f_Club_mend_24 h = some res) (q : Q (some (.int res.1)) res.2) : am_W (X_Club_mend (d + 4)) 24 [some (.ref 0), some (.int x1), some (.int x2), some (.int x3), none] [] h Q :=
  b_Club_mend_24 (d := (d + 4)) (q := (am_rIpi (v := (-2000000000)) e q))
theorem t_Club_mend_63 {d : Nat} {x1 : Int32} {x2 : Int32} {x3 : Int32} {x4 : Int32} {h : am_H} {Q : am_Q} {res : Int32 × am_H} (e : f_Club_mend_63 h x4 = some res) (q : Q (some (.int res.1)) res.2) : am_W (X_Club_mend (d + 4)) 63 [some (.ref 0), some (.int x1), some (.int x2), some (.int x3), some (.int x4)] [] h Q :=
  b_Club_mend_63 (d := (d + 4)) (q := (am_rIpi (v := x4) e q))
theorem t_Club_mend_56 {d : Nat} {x1 : Int32} {x2 : Int32} {x3 : Int32} {x4 : Int32} {h : am_H} {Q : am_Q} {res : Int32 × am_H} (e : f_Club_mend_56 h x1 x2 x3 x4 = some res) (q : Q (some (.int res.1)) res.2) : am_W (X_Club_mend (d + 4)) 56 [some (.ref 0), some (.int x1), some (.int x2), some (.int x3), some (.int x4)] [] h Q :=
  (am_bd e).elim fun p hp => b_Club_mend_56 (d := (d + 3)) (k := c_Club_alter (d := d) hp.1 (t_Club_mend_63 hp.2 q))
theorem t_Club_mend_44 {d : Nat} {x1 : Int32} {x2 : Int32} {x3 : Int32} {x4 : Int32} {h : am_H} {Q : am_Q} {res : Int32 × am_H} (e : f_Club_mend_44 h x1 x2 x3 x4 = some res) (q : Q (some (.int res.1)) res.2) : am_W (X_Club_mend (d + 4)) 44 [some (.ref 0), some (.int x1), some (.int x2), some (.int x3), some (.int x4)] [] h Q :=
  (am_bd e).elim fun p hp => b_Club_mend_44 (d := (d + 3)) (k := c_Changes_remember (d := d + 2) hp.1 (t_Club_mend_56 hp.2 q))
theorem t_Club_mend_36 {d : Nat} {x1 : Int32} {x2 : Int32} {x3 : Int32} {y0 : Int32} {h : am_H} {Q : am_Q} {res : Int32 × am_H} (e : f_Club_mend_36 h x1 x2 x3 y0 = some res) (q : Q (some (.int res.1)) res.2) : am_W (X_Club_mend (d + 4)) 36 [some (.ref 0), some (.int x1), some (.int x2), some (.int x3), none] [.int y0] h Q :=
  b_Club_mend_36 (d := (d + 4)) (kt := fun c => (t_Club_mend_63 (am_ift e c) q)) (kf := fun c => (t_Club_mend_44 (am_ife e c) q))
theorem t_Club_mend_27 {d : Nat} {x1 : Int32} {x2 : Int32} {x3 : Int32} {h : am_H} {Q : am_Q} {res : Int32 × am_H} (e : f_Club_mend_27 h x1 x2 x3 = some res) (q : Q (some (.int res.1)) res.2) : am_W (X_Club_mend (d + 4)) 27 [some (.ref 0), some (.int x1), some (.int x2), some (.int x3), none] [] h Q :=
  (am_bd e).elim fun p hp => b_Club_mend_27 (d := (d + 3)) (k := c_Hole_numberAt (d := d + 2) hp.1 (t_Club_mend_36 hp.2 q))
theorem t_Club_mend_21 {d : Nat} {x1 : Int32} {x2 : Int32} {x3 : Int32} {y0 : Bool} {h : am_H} {Q : am_Q} {res : Int32 × am_H} (e : f_Club_mend_21 h x1 x2 x3 y0 = some res) (q : Q (some (.int res.1)) res.2) : am_W (X_Club_mend (d + 4)) 21 [some (.ref 0), some (.int x1), some (.int x2), some (.int x3), none] [.int (am_b y0)] h Q :=
  b_Club_mend_21 (d := (d + 4)) (kt := fun c => (t_Club_mend_27 (am_ift e (am_bn c)) q)) (kf := fun c => (t_Club_mend_24 (am_iff e (am_bz c)) q))
theorem t_Club_mend_12 {d : Nat} {x1 : Int32} {x2 : Int32} {x3 : Int32} {h : am_H} {Q : am_Q} {res : Int32 × am_H} (e : f_Club_mend_12 h x1 x2 x3 = some res) (q : Q (some (.int res.1)) res.2) : am_W (X_Club_mend (d + 4)) 12 [some (.ref 0), some (.int x1), some (.int x2), some (.int x3), none] [] h Q :=
  (am_bd e).elim fun p hp => b_Club_mend_12 (d := (d + 3)) (k := c_Hole_allows (d := d + 2) hp.1 (t_Club_mend_21 hp.2 q))
theorem t_Club_mend_9 {d : Nat} {x1 : Int32} {x2 : Int32} {x3 : Int32} {y0 : Bool} {h : am_H} {Q : am_Q} {res : Int32 × am_H} (e : f_Club_mend_9 h x1 x2 x3 y0 = some res) (q : Q (some (.int res.1)) res.2) : am_W (X_Club_mend (d + 4)) 9 [some (.ref 0), some (.int x1), some (.int x2), some (.int x3), none] [.int (am_b y0)] h Q :=
  b_Club_mend_9 (d := (d + 4)) (kt := fun c => (t_Club_mend_24 (am_iff e (am_bz c)) q)) (kf := fun c => (t_Club_mend_12 (am_ift e (am_bn c)) q))
theorem t_Club_mend_0 {d : Nat} {x1 : Int32} {x2 : Int32} {x3 : Int32} {h : am_H} {Q : am_Q} {res : Int32 × am_H} (e : f_Club_mend h x1 x2 x3 = some res) (q : Q (some (.int res.1)) res.2) : am_W (X_Club_mend (d + 4)) 0 [some (.ref 0), some (.int x1), some (.int x2), some (.int x3), none] [] h Q :=
  b_Club_mend_0 (d := (d + 3)) (k := c_Hole_hasNumber (d := d + 2) rfl (t_Club_mend_9 e q))
theorem c_Club_mend {d : Nat} {x1 : Int32} {x2 : Int32} {x3 : Int32} {h : am_H} {Q : am_Q} {res : Int32 × am_H} (e : f_Club_mend h x1 x2 x3 = some res) (q : Q (some (.int res.1)) res.2) : m_Club_mend (d + 4) [.ref 0, .int x1, .int x2, .int x3] h Q :=
  e_Club_mend (t_Club_mend_0 e q)
theorem d_Deed_place_0 : decode prog_3_method_2_code 0 = .ok (.aload_n 0, 1) := by decide +kernel
theorem d_Deed_place_1 : decode prog_3_method_2_code 1 = .ok (.getfield 11, 3) := by decide +kernel
theorem d_Deed_place_4 : decode prog_3_method_2_code 4 = .ok (.iconst 5, 1) := by decide +kernel
theorem d_Deed_place_5 : decode prog_3_method_2_code 5 = .ok (.iaload, 1) := by decide +kernel
theorem d_Deed_place_6 : decode prog_3_method_2_code 6 = .ok (.ireturn, 1) := by decide +kernel
theorem b_Deed_place_0 {d : Nat} {h : am_H} {Q : am_Q} (q : Q (some (.int (h.1 20 (5 : Int32).toNatClampNeg))) h) : am_W (X_Deed_place d) 0 [some (.ref 19)] [] h Q :=
  am_aload_n d_Deed_place_0 rfl (i := 0) rfl <|
    am_getR (ci := 6) (i := 2) rfl rfl rfl (Nat.le_of_ble_eq_true rfl) w_284 d_Deed_place_1 <|
    am_iconst (v := 5) d_Deed_place_4 (by decide) <|
    am_iald rfl (am_vin (by decide)) d_Deed_place_5 <|
    am_iret rfl d_Deed_place_6 q
theorem t_Deed_place_0 {d : Nat} {h : am_H} {Q : am_Q} {res : Int32} (e : f_Deed_place h = res) (q : Q (some (.int res)) h) : am_W (X_Deed_place d) 0 [some (.ref 19)] [] h Q :=
  b_Deed_place_0 (d := d) (q := (am_rIt (v := (h.1 20 (5 : Int32).toNatClampNeg)) e q))
theorem c_Deed_place {d : Nat} {h : am_H} {Q : am_Q} {res : Int32} (e : f_Deed_place h = res) (q : Q (some (.int res)) h) : m_Deed_place d [.ref 19] h Q :=
  e_Deed_place (t_Deed_place_0 e q)
theorem d_Club_of_0 : decode prog_1_method_5_code 0 = .ok (.iload_n 2, 1) := by decide +kernel
theorem d_Club_of_1 : decode prog_1_method_5_code 1 = .ok (.bipush 9, 2) := by decide +kernel
theorem d_Club_of_3 : decode prog_1_method_5_code 3 = .ok (.if_icmp .ne 15, 3) := by decide +kernel
theorem d_Club_of_6 : decode prog_1_method_5_code 6 = .ok (.iload_n 1, 1) := by decide +kernel
theorem d_Club_of_7 : decode prog_1_method_5_code 7 = .ok (.ifCond .ne 11, 3) := by decide +kernel
theorem d_Club_of_10 : decode prog_1_method_5_code 10 = .ok (.aload_n 0, 1) := by decide +kernel
theorem d_Club_of_11 : decode prog_1_method_5_code 11 = .ok (.getfield 55, 3) := by decide +kernel
theorem d_Club_of_14 : decode prog_1_method_5_code 14 = .ok (.invokevirtual 129, 3) := by decide +kernel
theorem d_Club_of_17 : decode prog_1_method_5_code 17 = .ok (.ireturn, 1) := by decide +kernel
theorem d_Club_of_18 : decode prog_1_method_5_code 18 = .ok (.aload_n 0, 1) := by decide +kernel
theorem d_Club_of_19 : decode prog_1_method_5_code 19 = .ok (.getfield 12, 3) := by decide +kernel
theorem d_Club_of_22 : decode prog_1_method_5_code 22 = .ok (.iload_n 1, 1) := by decide +kernel
theorem d_Club_of_23 : decode prog_1_method_5_code 23 = .ok (.iload_n 2, 1) := by decide +kernel
theorem d_Club_of_24 : decode prog_1_method_5_code 24 = .ok (.invokevirtual 109, 3) := by decide +kernel
theorem d_Club_of_27 : decode prog_1_method_5_code 27 = .ok (.ifCond .eq 15, 3) := by decide +kernel
theorem d_Club_of_30 : decode prog_1_method_5_code 30 = .ok (.aload_n 0, 1) := by decide +kernel
theorem d_Club_of_31 : decode prog_1_method_5_code 31 = .ok (.getfield 12, 3) := by decide +kernel
theorem d_Club_of_34 : decode prog_1_method_5_code 34 = .ok (.iload_n 1, 1) := by decide +kernel
theorem d_Club_of_35 : decode prog_1_method_5_code 35 = .ok (.iload_n 2, 1) := by decide +kernel
theorem d_Club_of_36 : decode prog_1_method_5_code 36 = .ok (.invokevirtual 117, 3) := by decide +kernel
theorem d_Club_of_39 : decode prog_1_method_5_code 39 = .ok (.goto 5, 3) := by decide +kernel
theorem d_Club_of_42 : decode prog_1_method_5_code 42 = .ok (.ldc 116, 2) := by decide +kernel
theorem d_Club_of_44 : decode prog_1_method_5_code 44 = .ok (.ireturn, 1) := by decide +kernel
theorem b_Club_of_0 {d : Nat} {x1 : Int32} {x2 : Int32} {h : am_H} {Q : am_Q} (kt : ¬ x2 = 9 → am_W (X_Club_of d) 18 [some (.ref 0), some (.int x1), some (.int x2)] [] h Q) (kf : x2 = 9 → am_W (X_Club_of d) 6 [some (.ref 0), some (.int x1), some (.int x2)] [] h Q) : am_W (X_Club_of d) 0 [some (.ref 0), some (.int x1), some (.int x2)] [] h Q :=
  am_iload_n d_Club_of_0 rfl (i := 2) rfl <|
    am_bipush (v := 9) d_Club_of_1 (by decide) <|
    am_icmp_ne (tgt := 18) d_Club_of_3 (by decide) kt kf
theorem b_Club_of_6 {d : Nat} {x1 : Int32} {x2 : Int32} {h : am_H} {Q : am_Q} (kt : ¬ x1 = 0 → am_W (X_Club_of d) 18 [some (.ref 0), some (.int x1), some (.int x2)] [] h Q) (kf : x1 = 0 → am_W (X_Club_of d) 10 [some (.ref 0), some (.int x1), some (.int x2)] [] h Q) : am_W (X_Club_of d) 6 [some (.ref 0), some (.int x1), some (.int x2)] [] h Q :=
  am_iload_n d_Club_of_6 rfl (i := 1) rfl <|
    am_if_ne (tgt := 18) d_Club_of_7 (by decide) kt kf
theorem b_Club_of_10 {d : Nat} {x1 : Int32} {x2 : Int32} {h : am_H} {Q : am_Q} (k : m_Deed_place d [.ref 19] h (fun r hh => am_W (X_Club_of (d + 1)) 17 [some (.ref 0), some (.int x1), some (.int x2)] (r.toList ++ []) hh Q)) : am_W (X_Club_of (d + 1)) 10 [some (.ref 0), some (.int x1), some (.int x2)] [] h Q :=
  am_aload_n d_Club_of_10 rfl (i := 0) rfl <|
    am_getR (ci := 0) (i := 5) rfl rfl rfl (Nat.le_of_ble_eq_true rfl) w_367 d_Club_of_11 <|
    am_callV (vs := []) (st := []) (k := 19) (ci := 6) rfl d_Club_of_14 rfl rfl w_509 w_510 w_511 w_90 w_512 p_Deed_place (Nat.le_of_ble_eq_true rfl) (Nat.le_of_ble_eq_true rfl) rfl k
theorem b_Club_of_17 {d : Nat} {x1 : Int32} {x2 : Int32} {y0 : Int32} {h : am_H} {Q : am_Q} (q : Q (some (.int y0)) h) : am_W (X_Club_of d) 17 [some (.ref 0), some (.int x1), some (.int x2)] [.int y0] h Q :=
  am_iret rfl d_Club_of_17 q
theorem b_Club_of_18 {d : Nat} {x1 : Int32} {x2 : Int32} {h : am_H} {Q : am_Q} (k : m_Hole_hasNumber d [.ref 1, .int x1, .int x2] h (fun r hh => am_W (X_Club_of (d + 1)) 27 [some (.ref 0), some (.int x1), some (.int x2)] (r.toList ++ []) hh Q)) : am_W (X_Club_of (d + 1)) 18 [some (.ref 0), some (.int x1), some (.int x2)] [] h Q :=
  am_aload_n d_Club_of_18 rfl (i := 0) rfl <|
    am_getR (ci := 0) (i := 0) rfl rfl rfl (Nat.le_of_ble_eq_true rfl) w_362 d_Club_of_19 <|
    am_iload_n d_Club_of_22 rfl (i := 1) rfl <|
    am_iload_n d_Club_of_23 rfl (i := 2) rfl <|
    am_callV (vs := [.int x1, .int x2]) (st := []) (k := 1) (ci := 1) rfl d_Club_of_24 rfl rfl w_464 w_465 w_466 w_84 w_467 p_Hole_hasNumber (Nat.le_of_ble_eq_true rfl) (Nat.le_of_ble_eq_true rfl) rfl k
theorem b_Club_of_27 {d : Nat} {x1 : Int32} {x2 : Int32} {y0 : Bool} {h : am_H} {Q : am_Q} (kt : (am_b y0) = 0 → am_W (X_Club_of d) 42 [some (.ref 0), some (.int x1), some (.int x2)] [] h Q) (kf : ¬ (am_b y0) = 0 → am_W (X_Club_of d) 30 [some (.ref 0), some (.int x1), some (.int x2)] [] h Q) : am_W (X_Club_of d) 27 [some (.ref 0), some (.int x1), some (.int x2)] [.int (am_b y0)] h Q :=
  am_if_eq (tgt := 42) d_Club_of_27 (by decide) kt kf
theorem b_Club_of_30 {d : Nat} {x1 : Int32} {x2 : Int32} {h : am_H} {Q : am_Q} (k : m_Hole_numberAt d [.ref 1, .int x1, .int x2] h (fun r hh => am_W (X_Club_of (d + 1)) 39 [some (.ref 0), some (.int x1), some (.int x2)] (r.toList ++ []) hh Q)) : am_W (X_Club_of (d + 1)) 30 [some (.ref 0), some (.int x1), some (.int x2)] [] h Q :=
  am_aload_n d_Club_of_30 rfl (i := 0) rfl <|
    am_getR (ci := 0) (i := 0) rfl rfl rfl (Nat.le_of_ble_eq_true rfl) w_362 d_Club_of_31 <|
    am_iload_n d_Club_of_34 rfl (i := 1) rfl <|
    am_iload_n d_Club_of_35 rfl (i := 2) rfl <|
    am_callV (vs := [.int x1, .int x2]) (st := []) (k := 1) (ci := 1) rfl d_Club_of_36 rfl rfl w_480 w_481 w_482 w_84 w_483 p_Hole_numberAt (Nat.le_of_ble_eq_true rfl) (Nat.le_of_ble_eq_true rfl) rfl k
theorem b_Club_of_39 {d : Nat} {x1 : Int32} {x2 : Int32} {y0 : Int32} {h : am_H} {Q : am_Q} (q : Q (some (.int y0)) h) : am_W (X_Club_of d) 39 [some (.ref 0), some (.int x1), some (.int x2)] [.int y0] h Q :=
  am_goto (tgt := 44) d_Club_of_39 (by decide) <|
    am_iret rfl d_Club_of_44 q
theorem b_Club_of_42 {d : Nat} {x1 : Int32} {x2 : Int32} {h : am_H} {Q : am_Q} (q : Q (some (.int (-2000000000))) h) : am_W (X_Club_of d) 42 [some (.ref 0), some (.int x1), some (.int x2)] [] h Q :=
  am_ldc (v := (-2000000000)) d_Club_of_42 w_479 <|
    am_iret rfl d_Club_of_44 q
theorem t_Club_of_42 {d : Nat} {x1 : Int32} {x2 : Int32} {h : am_H} {Q : am_Q} {res : Int32} (e : f_Club_of_42 h = some res) (q : Q (some (.int res)) h) : am_W (X_Club_of (d + 2)) 42 [some (.ref 0), some (.int x1), some (.int x2)] [] h Q :=
  b_Club_of_42 (d := (d + 2)) (q := (am_rIp (v := (-2000000000)) e q))
theorem t_Club_of_39 {d : Nat} {x1 : Int32} {x2 : Int32} {y0 : Int32} {h : am_H} {Q : am_Q} {res : Int32} (e : f_Club_of_39 h y0 = some res) (q : Q (some (.int res)) h) : am_W (X_Club_of (d + 2)) 39 [some (.ref 0), some (.int x1), some (.int x2)] [.int y0] h Q :=
  b_Club_of_39 (d := (d + 2)) (q := (am_rIp (v := y0) e q))
theorem t_Club_of_30 {d : Nat} {x1 : Int32} {x2 : Int32} {h : am_H} {Q : am_Q} {res : Int32} (e : f_Club_of_30 h x1 x2 = some res) (q : Q (some (.int res)) h) : am_W (X_Club_of (d + 2)) 30 [some (.ref 0), some (.int x1), some (.int x2)] [] h Q :=
  (am_bd e).elim fun p hp => b_Club_of_30 (d := (d + 1)) (k := c_Hole_numberAt (d := d) hp.1 (t_Club_of_39 hp.2 q))
theorem t_Club_of_27 {d : Nat} {x1 : Int32} {x2 : Int32} {y0 : Bool} {h : am_H} {Q : am_Q} {res : Int32} (e : f_Club_of_27 h x1 x2 y0 = some res) (q : Q (some (.int res)) h) : am_W (X_Club_of (d + 2)) 27 [some (.ref 0), some (.int x1), some (.int x2)] [.int (am_b y0)] h Q :=
  b_Club_of_27 (d := (d + 2)) (kt := fun c => (t_Club_of_42 (am_iff e (am_bz c)) q)) (kf := fun c => (t_Club_of_30 (am_ift e (am_bn c)) q))
theorem t_Club_of_18 {d : Nat} {x1 : Int32} {x2 : Int32} {h : am_H} {Q : am_Q} {res : Int32} (e : f_Club_of_18 h x1 x2 = some res) (q : Q (some (.int res)) h) : am_W (X_Club_of (d + 2)) 18 [some (.ref 0), some (.int x1), some (.int x2)] [] h Q :=
  b_Club_of_18 (d := (d + 1)) (k := c_Hole_hasNumber (d := d) rfl (t_Club_of_27 e q))
theorem t_Club_of_17 {d : Nat} {x1 : Int32} {x2 : Int32} {y0 : Int32} {h : am_H} {Q : am_Q} {res : Int32} (e : f_Club_of_17 h y0 = some res) (q : Q (some (.int res)) h) : am_W (X_Club_of (d + 2)) 17 [some (.ref 0), some (.int x1), some (.int x2)] [.int y0] h Q :=
  b_Club_of_17 (d := (d + 2)) (q := (am_rIp (v := y0) e q))
theorem t_Club_of_10 {d : Nat} {x1 : Int32} {x2 : Int32} {h : am_H} {Q : am_Q} {res : Int32} (e : f_Club_of_10 h = some res) (q : Q (some (.int res)) h) : am_W (X_Club_of (d + 2)) 10 [some (.ref 0), some (.int x1), some (.int x2)] [] h Q :=
  b_Club_of_10 (d := (d + 1)) (k := c_Deed_place (d := d + 1) rfl (t_Club_of_17 e q))
theorem t_Club_of_6 {d : Nat} {x1 : Int32} {x2 : Int32} {h : am_H} {Q : am_Q} {res : Int32} (e : f_Club_of_6 h x1 x2 = some res) (q : Q (some (.int res)) h) : am_W (X_Club_of (d + 2)) 6 [some (.ref 0), some (.int x1), some (.int x2)] [] h Q :=
  b_Club_of_6 (d := (d + 2)) (kt := fun c => (t_Club_of_18 (am_ife e c) q)) (kf := fun c => (t_Club_of_10 (am_ift e c) q))
theorem t_Club_of_0 {d : Nat} {x1 : Int32} {x2 : Int32} {h : am_H} {Q : am_Q} {res : Int32} (e : f_Club_of h x1 x2 = some res) (q : Q (some (.int res)) h) : am_W (X_Club_of (d + 2)) 0 [some (.ref 0), some (.int x1), some (.int x2)] [] h Q :=
  b_Club_of_0 (d := (d + 2)) (kt := fun c => (t_Club_of_18 (am_ife e c) q)) (kf := fun c => (t_Club_of_6 (am_ift e c) q))
theorem c_Club_of {d : Nat} {x1 : Int32} {x2 : Int32} {h : am_H} {Q : am_Q} {res : Int32} (e : f_Club_of h x1 x2 = some res) (q : Q (some (.int res)) h) : m_Club_of (d + 2) [.ref 0, .int x1, .int x2] h Q :=
  e_Club_of (t_Club_of_0 e q)
theorem d_Law_addByte_0 : decode prog_6_method_4_code 0 = .ok (.aload_n 0, 1) := by decide +kernel
theorem d_Law_addByte_1 : decode prog_6_method_4_code 1 = .ok (.getfield 27, 3) := by decide +kernel
theorem d_Law_addByte_4 : decode prog_6_method_4_code 4 = .ok (.ifCond .lt 12, 3) := by decide +kernel
theorem d_Law_addByte_7 : decode prog_6_method_4_code 7 = .ok (.aload_n 0, 1) := by decide +kernel
theorem d_Law_addByte_8 : decode prog_6_method_4_code 8 = .ok (.getfield 27, 3) := by decide +kernel
theorem d_Law_addByte_11 : decode prog_6_method_4_code 11 = .ok (.bipush 120, 2) := by decide +kernel
theorem d_Law_addByte_13 : decode prog_6_method_4_code 13 = .ok (.if_icmp .lt 6, 3) := by decide +kernel
theorem d_Law_addByte_16 : decode prog_6_method_4_code 16 = .ok (.bipush (-3), 2) := by decide +kernel
theorem d_Law_addByte_18 : decode prog_6_method_4_code 18 = .ok (.ireturn, 1) := by decide +kernel
theorem d_Law_addByte_19 : decode prog_6_method_4_code 19 = .ok (.aload_n 0, 1) := by decide +kernel
theorem d_Law_addByte_20 : decode prog_6_method_4_code 20 = .ok (.getfield 11, 3) := by decide +kernel
theorem d_Law_addByte_23 : decode prog_6_method_4_code 23 = .ok (.aload_n 0, 1) := by decide +kernel
theorem d_Law_addByte_24 : decode prog_6_method_4_code 24 = .ok (.getfield 27, 3) := by decide +kernel
theorem d_Law_addByte_27 : decode prog_6_method_4_code 27 = .ok (.iload_n 1, 1) := by decide +kernel
theorem d_Law_addByte_28 : decode prog_6_method_4_code 28 = .ok (.iastore, 1) := by decide +kernel
theorem d_Law_addByte_29 : decode prog_6_method_4_code 29 = .ok (.aload_n 0, 1) := by decide +kernel
theorem d_Law_addByte_30 : decode prog_6_method_4_code 30 = .ok (.dup, 1) := by decide +kernel
theorem d_Law_addByte_31 : decode prog_6_method_4_code 31 = .ok (.getfield 27, 3) := by decide +kernel
theorem d_Law_addByte_34 : decode prog_6_method_4_code 34 = .ok (.iconst 1, 1) := by decide +kernel
theorem d_Law_addByte_35 : decode prog_6_method_4_code 35 = .ok (.iadd, 1) := by decide +kernel
theorem d_Law_addByte_36 : decode prog_6_method_4_code 36 = .ok (.putfield 27, 3) := by decide +kernel
theorem d_Law_addByte_39 : decode prog_6_method_4_code 39 = .ok (.aload_n 0, 1) := by decide +kernel
theorem d_Law_addByte_40 : decode prog_6_method_4_code 40 = .ok (.getfield 27, 3) := by decide +kernel
theorem d_Law_addByte_43 : decode prog_6_method_4_code 43 = .ok (.ireturn, 1) := by decide +kernel
theorem b_Law_addByte_0 {d : Nat} {x1 : Int32} {h : am_H} {Q : am_Q} (kt : (h.1 6 5) < 0 → am_W (X_Law_addByte d) 16 [some (.ref 6), some (.int x1)] [] h Q) (kf : ¬ (h.1 6 5) < 0 → am_W (X_Law_addByte d) 7 [some (.ref 6), some (.int x1)] [] h Q) : am_W (X_Law_addByte d) 0 [some (.ref 6), some (.int x1)] [] h Q :=
  am_aload_n d_Law_addByte_0 rfl (i := 0) rfl <|
    am_getI (ci := 2) (i := 5) rfl rfl rfl (Nat.le_of_ble_eq_true rfl) w_165 d_Law_addByte_1 <|
    am_if_lt (tgt := 16) d_Law_addByte_4 (by decide) kt kf
theorem b_Law_addByte_7 {d : Nat} {x1 : Int32} {h : am_H} {Q : am_Q} (kt : (h.1 6 5) < 120 → am_W (X_Law_addByte d) 19 [some (.ref 6), some (.int x1)] [] h Q) (kf : ¬ (h.1 6 5) < 120 → am_W (X_Law_addByte d) 16 [some (.ref 6), some (.int x1)] [] h Q) : am_W (X_Law_addByte d) 7 [some (.ref 6), some (.int x1)] [] h Q :=
  am_aload_n d_Law_addByte_7 rfl (i := 0) rfl <|
    am_getI (ci := 2) (i := 5) rfl rfl rfl (Nat.le_of_ble_eq_true rfl) w_165 d_Law_addByte_8 <|
    am_bipush (v := 120) d_Law_addByte_11 (by decide) <|
    am_icmp_lt (tgt := 19) d_Law_addByte_13 (by decide) kt kf
theorem b_Law_addByte_16 {d : Nat} {x1 : Int32} {h : am_H} {Q : am_Q} (q : Q (some (.int (-3))) h) : am_W (X_Law_addByte d) 16 [some (.ref 6), some (.int x1)] [] h Q :=
  am_bipush (v := (-3)) d_Law_addByte_16 (by decide) <|
    am_iret rfl d_Law_addByte_18 q
theorem b_Law_addByte_19 {d : Nat} {x1 : Int32} {h : am_H} {Q : am_Q} (q0 : vp_in (h.1 6 5) 120) (q : Q (some (.int ((am_pI (am_pI h 7 (h.1 6 5).toNatClampNeg x1) 6 5 (((am_pI h 7 (h.1 6 5).toNatClampNeg x1).1 6 5) + 1)).1 6 5))) (am_pI (am_pI h 7 (h.1 6 5).toNatClampNeg x1) 6 5 (((am_pI h 7 (h.1 6 5).toNatClampNeg x1).1 6 5) + 1))) : am_W (X_Law_addByte d) 19 [some (.ref 6), some (.int x1)] [] h Q :=
  am_aload_n d_Law_addByte_19 rfl (i := 0) rfl <|
    am_getR (ci := 2) (i := 0) rfl rfl rfl (Nat.le_of_ble_eq_true rfl) w_160 d_Law_addByte_20 <|
    am_aload_n d_Law_addByte_23 rfl (i := 0) rfl <|
    am_getI (ci := 2) (i := 5) rfl rfl rfl (Nat.le_of_ble_eq_true rfl) w_165 d_Law_addByte_24 <|
    am_iload_n d_Law_addByte_27 rfl (i := 1) rfl <|
    am_iast rfl q0 d_Law_addByte_28 <|
    am_aload_n d_Law_addByte_29 rfl (i := 0) rfl <|
    am_dupR d_Law_addByte_30 <|
    am_getI (ci := 2) (i := 5) rfl rfl rfl (Nat.le_of_ble_eq_true rfl) w_165 d_Law_addByte_31 <|
    am_iconst (v := 1) d_Law_addByte_34 (by decide) <|
    am_iadd d_Law_addByte_35 <|
    am_putI (ci := 2) (i := 5) rfl rfl rfl (Nat.le_of_ble_eq_true rfl) w_165 rfl rfl rfl d_Law_addByte_36 <|
    am_aload_n d_Law_addByte_39 rfl (i := 0) rfl <|
    am_getI (ci := 2) (i := 5) rfl rfl rfl (Nat.le_of_ble_eq_true rfl) w_165 d_Law_addByte_40 <|
    am_iret rfl d_Law_addByte_43 q
theorem t_Law_addByte_16 {d : Nat} {x1 : Int32} {h : am_H} {Q : am_Q} {res : Int32 × am_H} (e : f_Law_addByte_16 h = some res) (q : Q (some (.int res.1)) res.2) : am_W (X_Law_addByte d) 16 [some (.ref 6), some (.int x1)] [] h Q :=
  b_Law_addByte_16 (d := d) (q := (am_rIpi (v := (-3)) e q))
theorem t_Law_addByte_19 {d : Nat} {x1 : Int32} {h : am_H} {Q : am_Q} {res : Int32 × am_H} (e : f_Law_addByte_19 h x1 = some res) (q : Q (some (.int res.1)) res.2) : am_W (X_Law_addByte d) 19 [some (.ref 6), some (.int x1)] [] h Q :=
  b_Law_addByte_19 (d := d) (q0 := (am_okv (am_gd e))) (q := (am_rIpi (v := ((am_pI (am_pI h 7 (h.1 6 5).toNatClampNeg x1) 6 5 (((am_pI h 7 (h.1 6 5).toNatClampNeg x1).1 6 5) + 1)).1 6 5)) (am_ga e) q))
theorem t_Law_addByte_7 {d : Nat} {x1 : Int32} {h : am_H} {Q : am_Q} {res : Int32 × am_H} (e : f_Law_addByte_7 h x1 = some res) (q : Q (some (.int res.1)) res.2) : am_W (X_Law_addByte d) 7 [some (.ref 6), some (.int x1)] [] h Q :=
  b_Law_addByte_7 (d := d) (kt := fun c => (t_Law_addByte_19 (am_ift e c) q)) (kf := fun c => (t_Law_addByte_16 (am_ife e c) q))
theorem t_Law_addByte_0 {d : Nat} {x1 : Int32} {h : am_H} {Q : am_Q} {res : Int32 × am_H} (e : f_Law_addByte h x1 = some res) (q : Q (some (.int res.1)) res.2) : am_W (X_Law_addByte d) 0 [some (.ref 6), some (.int x1)] [] h Q :=
  b_Law_addByte_0 (d := d) (kt := fun c => (t_Law_addByte_16 (am_ift e c) q)) (kf := fun c => (t_Law_addByte_7 (am_ife e c) q))
theorem c_Law_addByte {d : Nat} {x1 : Int32} {h : am_H} {Q : am_Q} {res : Int32 × am_H} (e : f_Law_addByte h x1 = some res) (q : Q (some (.int res.1)) res.2) : m_Law_addByte d [.ref 6, .int x1] h Q :=
  e_Law_addByte (t_Law_addByte_0 e q)
theorem d_Law_isTapeFull_0 : decode prog_6_method_2_code 0 = .ok (.aload_n 0, 1) := by decide +kernel
theorem d_Law_isTapeFull_1 : decode prog_6_method_2_code 1 = .ok (.getfield 27, 3) := by decide +kernel
theorem d_Law_isTapeFull_4 : decode prog_6_method_2_code 4 = .ok (.bipush 120, 2) := by decide +kernel
theorem d_Law_isTapeFull_6 : decode prog_6_method_2_code 6 = .ok (.if_icmp .lt 7, 3) := by decide +kernel
theorem d_Law_isTapeFull_9 : decode prog_6_method_2_code 9 = .ok (.iconst 1, 1) := by decide +kernel
theorem d_Law_isTapeFull_10 : decode prog_6_method_2_code 10 = .ok (.goto 4, 3) := by decide +kernel
theorem d_Law_isTapeFull_13 : decode prog_6_method_2_code 13 = .ok (.iconst 0, 1) := by decide +kernel
theorem d_Law_isTapeFull_14 : decode prog_6_method_2_code 14 = .ok (.ireturn, 1) := by decide +kernel
theorem b_Law_isTapeFull_0 {d : Nat} {h : am_H} {Q : am_Q} (kt : (h.1 6 5) < 120 → am_W (X_Law_isTapeFull d) 13 [some (.ref 6)] [] h Q) (kf : ¬ (h.1 6 5) < 120 → am_W (X_Law_isTapeFull d) 9 [some (.ref 6)] [] h Q) : am_W (X_Law_isTapeFull d) 0 [some (.ref 6)] [] h Q :=
  am_aload_n d_Law_isTapeFull_0 rfl (i := 0) rfl <|
    am_getI (ci := 2) (i := 5) rfl rfl rfl (Nat.le_of_ble_eq_true rfl) w_165 d_Law_isTapeFull_1 <|
    am_bipush (v := 120) d_Law_isTapeFull_4 (by decide) <|
    am_icmp_lt (tgt := 13) d_Law_isTapeFull_6 (by decide) kt kf
theorem b_Law_isTapeFull_9 {d : Nat} {h : am_H} {Q : am_Q} (q : Q (some (.int 1)) h) : am_W (X_Law_isTapeFull d) 9 [some (.ref 6)] [] h Q :=
  am_iconst (v := 1) d_Law_isTapeFull_9 (by decide) <|
    am_goto (tgt := 14) d_Law_isTapeFull_10 (by decide) <|
    am_zret (ty := .boolean) rfl (by decide) d_Law_isTapeFull_14 q
theorem b_Law_isTapeFull_13 {d : Nat} {h : am_H} {Q : am_Q} (q : Q (some (.int 0)) h) : am_W (X_Law_isTapeFull d) 13 [some (.ref 6)] [] h Q :=
  am_iconst (v := 0) d_Law_isTapeFull_13 (by decide) <|
    am_zret (ty := .boolean) rfl (by decide) d_Law_isTapeFull_14 q
theorem t_Law_isTapeFull_13 {d : Nat} {h : am_H} {Q : am_Q} {res : Bool} (e : f_Law_isTapeFull_13 h = res) (q : Q (some (.int (am_b res))) h) : am_W (X_Law_isTapeFull d) 13 [some (.ref 6)] [] h Q :=
  b_Law_isTapeFull_13 (d := d) (q := (am_rZt (v := false) e q))
theorem t_Law_isTapeFull_9 {d : Nat} {h : am_H} {Q : am_Q} {res : Bool} (e : f_Law_isTapeFull_9 h = res) (q : Q (some (.int (am_b res))) h) : am_W (X_Law_isTapeFull d) 9 [some (.ref 6)] [] h Q :=
  b_Law_isTapeFull_9 (d := d) (q := (am_rZt (v := true) e q))
theorem t_Law_isTapeFull_0 {d : Nat} {h : am_H} {Q : am_Q} {res : Bool} (e : f_Law_isTapeFull h = res) (q : Q (some (.int (am_b res))) h) : am_W (X_Law_isTapeFull d) 0 [some (.ref 6)] [] h Q :=
  b_Law_isTapeFull_0 (d := d) (kt := fun c => (t_Law_isTapeFull_13 (am_ift e c) q)) (kf := fun c => (t_Law_isTapeFull_9 (am_ife e c) q))
theorem c_Law_isTapeFull {d : Nat} {h : am_H} {Q : am_Q} {res : Bool} (e : f_Law_isTapeFull h = res) (q : Q (some (.int (am_b res))) h) : m_Law_isTapeFull d [.ref 6] h Q :=
  e_Law_isTapeFull (t_Law_isTapeFull_0 e q)
theorem d_Club_feed_0 : decode prog_1_method_6_code 0 = .ok (.iload_n 1, 1) := by decide +kernel
theorem d_Club_feed_1 : decode prog_1_method_6_code 1 = .ok (.ifCond .lt 10, 3) := by decide +kernel
theorem d_Club_feed_4 : decode prog_1_method_6_code 4 = .ok (.iload_n 1, 1) := by decide +kernel
theorem d_Club_feed_5 : decode prog_1_method_6_code 5 = .ok (.sipush 255, 3) := by decide +kernel
theorem d_Club_feed_8 : decode prog_1_method_6_code 8 = .ok (.if_icmp .le 5, 3) := by decide +kernel
theorem d_Club_feed_11 : decode prog_1_method_6_code 11 = .ok (.iconst (-1), 1) := by decide +kernel
theorem d_Club_feed_12 : decode prog_1_method_6_code 12 = .ok (.ireturn, 1) := by decide +kernel
theorem d_Club_feed_13 : decode prog_1_method_6_code 13 = .ok (.aload_n 0, 1) := by decide +kernel
theorem d_Club_feed_14 : decode prog_1_method_6_code 14 = .ok (.getfield 21, 3) := by decide +kernel
theorem d_Club_feed_17 : decode prog_1_method_6_code 17 = .ok (.invokevirtual 133, 3) := by decide +kernel
theorem d_Club_feed_20 : decode prog_1_method_6_code 20 = .ok (.ifCond .eq 8, 3) := by decide +kernel
theorem d_Club_feed_23 : decode prog_1_method_6_code 23 = .ok (.bipush (-3), 2) := by decide +kernel
theorem d_Club_feed_25 : decode prog_1_method_6_code 25 = .ok (.goto 11, 3) := by decide +kernel
theorem d_Club_feed_28 : decode prog_1_method_6_code 28 = .ok (.aload_n 0, 1) := by decide +kernel
theorem d_Club_feed_29 : decode prog_1_method_6_code 29 = .ok (.getfield 21, 3) := by decide +kernel
theorem d_Club_feed_32 : decode prog_1_method_6_code 32 = .ok (.iload_n 1, 1) := by decide +kernel
theorem d_Club_feed_33 : decode prog_1_method_6_code 33 = .ok (.invokevirtual 136, 3) := by decide +kernel
theorem d_Club_feed_36 : decode prog_1_method_6_code 36 = .ok (.ireturn, 1) := by decide +kernel
theorem b_Club_feed_0 {d : Nat} {x1 : Int32} {h : am_H} {Q : am_Q} (kt : x1 < 0 → am_W (X_Club_feed d) 11 [some (.ref 0), some (.int x1)] [] h Q) (kf : ¬ x1 < 0 → am_W (X_Club_feed d) 4 [some (.ref 0), some (.int x1)] [] h Q) : am_W (X_Club_feed d) 0 [some (.ref 0), some (.int x1)] [] h Q :=
  am_iload_n d_Club_feed_0 rfl (i := 1) rfl <|
    am_if_lt (tgt := 11) d_Club_feed_1 (by decide) kt kf
theorem b_Club_feed_4 {d : Nat} {x1 : Int32} {h : am_H} {Q : am_Q} (kt : x1 ≤ 255 → am_W (X_Club_feed d) 13 [some (.ref 0), some (.int x1)] [] h Q) (kf : ¬ x1 ≤ 255 → am_W (X_Club_feed d) 11 [some (.ref 0), some (.int x1)] [] h Q) : am_W (X_Club_feed d) 4 [some (.ref 0), some (.int x1)] [] h Q :=
  am_iload_n d_Club_feed_4 rfl (i := 1) rfl <|
    am_sipush (v := 255) d_Club_feed_5 (by decide) <|
    am_icmp_le (tgt := 13) d_Club_feed_8 (by decide) kt kf
theorem b_Club_feed_11 {d : Nat} {x1 : Int32} {h : am_H} {Q : am_Q} (q : Q (some (.int (-1))) h) : am_W (X_Club_feed d) 11 [some (.ref 0), some (.int x1)] [] h Q :=
  am_iconst (v := (-1)) d_Club_feed_11 (by decide) <|
    am_iret rfl d_Club_feed_12 q
theorem b_Club_feed_13 {d : Nat} {x1 : Int32} {h : am_H} {Q : am_Q} (k : m_Law_isTapeFull d [.ref 6] h (fun r hh => am_W (X_Club_feed (d + 1)) 20 [some (.ref 0), some (.int x1)] (r.toList ++ []) hh Q)) : am_W (X_Club_feed (d + 1)) 13 [some (.ref 0), some (.int x1)] [] h Q :=
  am_aload_n d_Club_feed_13 rfl (i := 0) rfl <|
    am_getR (ci := 0) (i := 1) rfl rfl rfl (Nat.le_of_ble_eq_true rfl) w_363 d_Club_feed_14 <|
    am_callV (vs := []) (st := []) (k := 6) (ci := 2) rfl d_Club_feed_17 rfl rfl w_517 w_518 w_519 w_86 w_520 p_Law_isTapeFull (Nat.le_of_ble_eq_true rfl) (Nat.le_of_ble_eq_true rfl) rfl k
theorem b_Club_feed_20 {d : Nat} {x1 : Int32} {y0 : Bool} {h : am_H} {Q : am_Q} (kt : (am_b y0) = 0 → am_W (X_Club_feed d) 28 [some (.ref 0), some (.int x1)] [] h Q) (kf : ¬ (am_b y0) = 0 → am_W (X_Club_feed d) 23 [some (.ref 0), some (.int x1)] [] h Q) : am_W (X_Club_feed d) 20 [some (.ref 0), some (.int x1)] [.int (am_b y0)] h Q :=
  am_if_eq (tgt := 28) d_Club_feed_20 (by decide) kt kf
theorem b_Club_feed_23 {d : Nat} {x1 : Int32} {h : am_H} {Q : am_Q} (q : Q (some (.int (-3))) h) : am_W (X_Club_feed d) 23 [some (.ref 0), some (.int x1)] [] h Q :=
  am_bipush (v := (-3)) d_Club_feed_23 (by decide) <|
    am_goto (tgt := 36) d_Club_feed_25 (by decide) <|
    am_iret rfl d_Club_feed_36 q
theorem b_Club_feed_28 {d : Nat} {x1 : Int32} {h : am_H} {Q : am_Q} (k : m_Law_addByte d [.ref 6, .int x1] h (fun r hh => am_W (X_Club_feed (d + 1)) 36 [some (.ref 0), some (.int x1)] (r.toList ++ []) hh Q)) : am_W (X_Club_feed (d + 1)) 28 [some (.ref 0), some (.int x1)] [] h Q :=
  am_aload_n d_Club_feed_28 rfl (i := 0) rfl <|
    am_getR (ci := 0) (i := 1) rfl rfl rfl (Nat.le_of_ble_eq_true rfl) w_363 d_Club_feed_29 <|
    am_iload_n d_Club_feed_32 rfl (i := 1) rfl <|
    am_callV (vs := [.int x1]) (st := []) (k := 6) (ci := 2) rfl d_Club_feed_33 rfl rfl w_521 w_522 w_523 w_86 w_524 p_Law_addByte (Nat.le_of_ble_eq_true rfl) (Nat.le_of_ble_eq_true rfl) rfl k
theorem b_Club_feed_36 {d : Nat} {x1 : Int32} {y0 : Int32} {h : am_H} {Q : am_Q} (q : Q (some (.int y0)) h) : am_W (X_Club_feed d) 36 [some (.ref 0), some (.int x1)] [.int y0] h Q :=
  am_iret rfl d_Club_feed_36 q
theorem t_Club_feed_11 {d : Nat} {x1 : Int32} {h : am_H} {Q : am_Q} {res : Int32 × am_H} (e : f_Club_feed_11 h = some res) (q : Q (some (.int res.1)) res.2) : am_W (X_Club_feed (d + 1)) 11 [some (.ref 0), some (.int x1)] [] h Q :=
  b_Club_feed_11 (d := (d + 1)) (q := (am_rIpi (v := (-1)) e q))
theorem t_Club_feed_36 {d : Nat} {x1 : Int32} {y0 : Int32} {h : am_H} {Q : am_Q} {res : Int32 × am_H} (e : f_Club_feed_36 h y0 = some res) (q : Q (some (.int res.1)) res.2) : am_W (X_Club_feed (d + 1)) 36 [some (.ref 0), some (.int x1)] [.int y0] h Q :=
  b_Club_feed_36 (d := (d + 1)) (q := (am_rIpi (v := y0) e q))
theorem t_Club_feed_28 {d : Nat} {x1 : Int32} {h : am_H} {Q : am_Q} {res : Int32 × am_H} (e : f_Club_feed_28 h x1 = some res) (q : Q (some (.int res.1)) res.2) : am_W (X_Club_feed (d + 1)) 28 [some (.ref 0), some (.int x1)] [] h Q :=
  (am_bd e).elim fun p hp => b_Club_feed_28 (d := d) (k := c_Law_addByte (d := d) hp.1 (t_Club_feed_36 hp.2 q))
theorem t_Club_feed_23 {d : Nat} {x1 : Int32} {h : am_H} {Q : am_Q} {res : Int32 × am_H} (e : f_Club_feed_23 h = some res) (q : Q (some (.int res.1)) res.2) : am_W (X_Club_feed (d + 1)) 23 [some (.ref 0), some (.int x1)] [] h Q :=
  b_Club_feed_23 (d := (d + 1)) (q := (am_rIpi (v := (-3)) e q))
theorem t_Club_feed_20 {d : Nat} {x1 : Int32} {y0 : Bool} {h : am_H} {Q : am_Q} {res : Int32 × am_H} (e : f_Club_feed_20 h x1 y0 = some res) (q : Q (some (.int res.1)) res.2) : am_W (X_Club_feed (d + 1)) 20 [some (.ref 0), some (.int x1)] [.int (am_b y0)] h Q :=
  b_Club_feed_20 (d := (d + 1)) (kt := fun c => (t_Club_feed_28 (am_iff e (am_bz c)) q)) (kf := fun c => (t_Club_feed_23 (am_ift e (am_bn c)) q))
theorem t_Club_feed_13 {d : Nat} {x1 : Int32} {h : am_H} {Q : am_Q} {res : Int32 × am_H} (e : f_Club_feed_13 h x1 = some res) (q : Q (some (.int res.1)) res.2) : am_W (X_Club_feed (d + 1)) 13 [some (.ref 0), some (.int x1)] [] h Q :=
  b_Club_feed_13 (d := d) (k := c_Law_isTapeFull (d := d) rfl (t_Club_feed_20 e q))
theorem t_Club_feed_4 {d : Nat} {x1 : Int32} {h : am_H} {Q : am_Q} {res : Int32 × am_H} (e : f_Club_feed_4 h x1 = some res) (q : Q (some (.int res.1)) res.2) : am_W (X_Club_feed (d + 1)) 4 [some (.ref 0), some (.int x1)] [] h Q :=
  b_Club_feed_4 (d := (d + 1)) (kt := fun c => (t_Club_feed_13 (am_ift e c) q)) (kf := fun c => (t_Club_feed_11 (am_ife e c) q))
theorem t_Club_feed_0 {d : Nat} {x1 : Int32} {h : am_H} {Q : am_Q} {res : Int32 × am_H} (e : f_Club_feed h x1 = some res) (q : Q (some (.int res.1)) res.2) : am_W (X_Club_feed (d + 1)) 0 [some (.ref 0), some (.int x1)] [] h Q :=
  b_Club_feed_0 (d := (d + 1)) (kt := fun c => (t_Club_feed_11 (am_ift e c) q)) (kf := fun c => (t_Club_feed_4 (am_ife e c) q))
theorem c_Club_feed {d : Nat} {x1 : Int32} {h : am_H} {Q : am_Q} {res : Int32 × am_H} (e : f_Club_feed h x1 = some res) (q : Q (some (.int res.1)) res.2) : m_Club_feed (d + 1) [.ref 0, .int x1] h Q :=
  e_Club_feed (t_Club_feed_0 e q)
theorem d_Law_next_0 : decode prog_6_method_6_code 0 = .ok (.aload_n 0, 1) := by decide +kernel
theorem d_Law_next_1 : decode prog_6_method_6_code 1 = .ok (.getfield 31, 3) := by decide +kernel
theorem d_Law_next_4 : decode prog_6_method_6_code 4 = .ok (.ifCond .lt 35, 3) := by decide +kernel
theorem d_Law_next_7 : decode prog_6_method_6_code 7 = .ok (.aload_n 0, 1) := by decide +kernel
theorem d_Law_next_8 : decode prog_6_method_6_code 8 = .ok (.getfield 31, 3) := by decide +kernel
theorem d_Law_next_11 : decode prog_6_method_6_code 11 = .ok (.aload_n 0, 1) := by decide +kernel
theorem d_Law_next_12 : decode prog_6_method_6_code 12 = .ok (.getfield 27, 3) := by decide +kernel
theorem d_Law_next_15 : decode prog_6_method_6_code 15 = .ok (.if_icmp .ge 24, 3) := by decide +kernel
theorem d_Law_next_18 : decode prog_6_method_6_code 18 = .ok (.aload_n 0, 1) := by decide +kernel
theorem d_Law_next_19 : decode prog_6_method_6_code 19 = .ok (.getfield 31, 3) := by decide +kernel
theorem d_Law_next_22 : decode prog_6_method_6_code 22 = .ok (.bipush 120, 2) := by decide +kernel
theorem d_Law_next_24 : decode prog_6_method_6_code 24 = .ok (.if_icmp .ge 15, 3) := by decide +kernel
theorem d_Law_next_27 : decode prog_6_method_6_code 27 = .ok (.aload_n 0, 1) := by decide +kernel
theorem d_Law_next_28 : decode prog_6_method_6_code 28 = .ok (.getfield 11, 3) := by decide +kernel
theorem d_Law_next_31 : decode prog_6_method_6_code 31 = .ok (.aload_n 0, 1) := by decide +kernel
theorem d_Law_next_32 : decode prog_6_method_6_code 32 = .ok (.getfield 31, 3) := by decide +kernel
theorem d_Law_next_35 : decode prog_6_method_6_code 35 = .ok (.iaload, 1) := by decide +kernel
theorem d_Law_next_36 : decode prog_6_method_6_code 36 = .ok (.goto 4, 3) := by decide +kernel
theorem d_Law_next_39 : decode prog_6_method_6_code 39 = .ok (.iconst (-1), 1) := by decide +kernel
theorem d_Law_next_40 : decode prog_6_method_6_code 40 = .ok (.ireturn, 1) := by decide +kernel
theorem b_Law_next_0 {d : Nat} {h : am_H} {Q : am_Q} (kt : (h.1 6 6) < 0 → am_W (X_Law_next d) 39 [some (.ref 6)] [] h Q) (kf : ¬ (h.1 6 6) < 0 → am_W (X_Law_next d) 7 [some (.ref 6)] [] h Q) : am_W (X_Law_next d) 0 [some (.ref 6)] [] h Q :=
  am_aload_n d_Law_next_0 rfl (i := 0) rfl <|
    am_getI (ci := 2) (i := 6) rfl rfl rfl (Nat.le_of_ble_eq_true rfl) w_166 d_Law_next_1 <|
    am_if_lt (tgt := 39) d_Law_next_4 (by decide) kt kf
theorem b_Law_next_7 {d : Nat} {h : am_H} {Q : am_Q} (kt : (h.1 6 5) ≤ (h.1 6 6) → am_W (X_Law_next d) 39 [some (.ref 6)] [] h Q) (kf : ¬ (h.1 6 5) ≤ (h.1 6 6) → am_W (X_Law_next d) 18 [some (.ref 6)] [] h Q) : am_W (X_Law_next d) 7 [some (.ref 6)] [] h Q :=
  am_aload_n d_Law_next_7 rfl (i := 0) rfl <|
    am_getI (ci := 2) (i := 6) rfl rfl rfl (Nat.le_of_ble_eq_true rfl) w_166 d_Law_next_8 <|
    am_aload_n d_Law_next_11 rfl (i := 0) rfl <|
    am_getI (ci := 2) (i := 5) rfl rfl rfl (Nat.le_of_ble_eq_true rfl) w_165 d_Law_next_12 <|
    am_icmp_ge (tgt := 39) d_Law_next_15 (by decide) kt kf
theorem b_Law_next_18 {d : Nat} {h : am_H} {Q : am_Q} (kt : 120 ≤ (h.1 6 6) → am_W (X_Law_next d) 39 [some (.ref 6)] [] h Q) (kf : ¬ 120 ≤ (h.1 6 6) → am_W (X_Law_next d) 27 [some (.ref 6)] [] h Q) : am_W (X_Law_next d) 18 [some (.ref 6)] [] h Q :=
  am_aload_n d_Law_next_18 rfl (i := 0) rfl <|
    am_getI (ci := 2) (i := 6) rfl rfl rfl (Nat.le_of_ble_eq_true rfl) w_166 d_Law_next_19 <|
    am_bipush (v := 120) d_Law_next_22 (by decide) <|
    am_icmp_ge (tgt := 39) d_Law_next_24 (by decide) kt kf
theorem b_Law_next_27 {d : Nat} {h : am_H} {Q : am_Q} (q0 : vp_in (h.1 6 6) 120) (q : Q (some (.int (h.1 7 (h.1 6 6).toNatClampNeg))) h) : am_W (X_Law_next d) 27 [some (.ref 6)] [] h Q :=
  am_aload_n d_Law_next_27 rfl (i := 0) rfl <|
    am_getR (ci := 2) (i := 0) rfl rfl rfl (Nat.le_of_ble_eq_true rfl) w_160 d_Law_next_28 <|
    am_aload_n d_Law_next_31 rfl (i := 0) rfl <|
    am_getI (ci := 2) (i := 6) rfl rfl rfl (Nat.le_of_ble_eq_true rfl) w_166 d_Law_next_32 <|
    am_iald rfl q0 d_Law_next_35 <|
    am_goto (tgt := 40) d_Law_next_36 (by decide) <|
    am_iret rfl d_Law_next_40 q
theorem b_Law_next_39 {d : Nat} {h : am_H} {Q : am_Q} (q : Q (some (.int (-1))) h) : am_W (X_Law_next d) 39 [some (.ref 6)] [] h Q :=
  am_iconst (v := (-1)) d_Law_next_39 (by decide) <|
    am_iret rfl d_Law_next_40 q
theorem t_Law_next_39 {d : Nat} {h : am_H} {Q : am_Q} {res : Int32} (e : f_Law_next_39 h = some res) (q : Q (some (.int res)) h) : am_W (X_Law_next d) 39 [some (.ref 6)] [] h Q :=
  b_Law_next_39 (d := d) (q := (am_rIp (v := (-1)) e q))
theorem t_Law_next_27 {d : Nat} {h : am_H} {Q : am_Q} {res : Int32} (e : f_Law_next_27 h = some res) (q : Q (some (.int res)) h) : am_W (X_Law_next d) 27 [some (.ref 6)] [] h Q :=
  b_Law_next_27 (d := d) (q0 := (am_okv (am_gd e))) (q := (am_rIp (v := (h.1 7 (h.1 6 6).toNatClampNeg)) (am_ga e) q))
theorem t_Law_next_18 {d : Nat} {h : am_H} {Q : am_Q} {res : Int32} (e : f_Law_next_18 h = some res) (q : Q (some (.int res)) h) : am_W (X_Law_next d) 18 [some (.ref 6)] [] h Q :=
  b_Law_next_18 (d := d) (kt := fun c => (t_Law_next_39 (am_ift e c) q)) (kf := fun c => (t_Law_next_27 (am_ife e c) q))
theorem t_Law_next_7 {d : Nat} {h : am_H} {Q : am_Q} {res : Int32} (e : f_Law_next_7 h = some res) (q : Q (some (.int res)) h) : am_W (X_Law_next d) 7 [some (.ref 6)] [] h Q :=
  b_Law_next_7 (d := d) (kt := fun c => (t_Law_next_39 (am_ift e c) q)) (kf := fun c => (t_Law_next_18 (am_ife e c) q))
theorem t_Law_next_0 {d : Nat} {h : am_H} {Q : am_Q} {res : Int32} (e : f_Law_next h = some res) (q : Q (some (.int res)) h) : am_W (X_Law_next d) 0 [some (.ref 6)] [] h Q :=
  b_Law_next_0 (d := d) (kt := fun c => (t_Law_next_39 (am_ift e c) q)) (kf := fun c => (t_Law_next_7 (am_ife e c) q))
theorem c_Law_next {d : Nat} {h : am_H} {Q : am_Q} {res : Int32} (e : f_Law_next h = some res) (q : Q (some (.int res)) h) : m_Law_next d [.ref 6] h Q :=
  e_Law_next (t_Law_next_0 e q)
theorem d_Law_operatorOf_0 : decode prog_6_method_10_code 0 = .ok (.iload_n 1, 1) := by decide +kernel
theorem d_Law_operatorOf_1 : decode prog_6_method_10_code 1 = .ok (.lookupswitch 210 #[(37, 198), (38, 102), (42, 174), (43, 150), (45, 162), (47, 186), (60, 114), (61, 126), (62, 138), (124, 91)], 91) := by decide +kernel
theorem d_Law_operatorOf_92 : decode prog_6_method_10_code 92 = .ok (.iload_n 0, 1) := by decide +kernel
theorem d_Law_operatorOf_93 : decode prog_6_method_10_code 93 = .ok (.ifCond .ne 8, 3) := by decide +kernel
theorem d_Law_operatorOf_96 : decode prog_6_method_10_code 96 = .ok (.bipush (-11), 2) := by decide +kernel
theorem d_Law_operatorOf_98 : decode prog_6_method_10_code 98 = .ok (.goto 4, 3) := by decide +kernel
theorem d_Law_operatorOf_101 : decode prog_6_method_10_code 101 = .ok (.iconst 0, 1) := by decide +kernel
theorem d_Law_operatorOf_102 : decode prog_6_method_10_code 102 = .ok (.ireturn, 1) := by decide +kernel
theorem d_Law_operatorOf_103 : decode prog_6_method_10_code 103 = .ok (.iload_n 0, 1) := by decide +kernel
theorem d_Law_operatorOf_104 : decode prog_6_method_10_code 104 = .ok (.iconst 1, 1) := by decide +kernel
theorem d_Law_operatorOf_105 : decode prog_6_method_10_code 105 = .ok (.if_icmp .ne 8, 3) := by decide +kernel
theorem d_Law_operatorOf_108 : decode prog_6_method_10_code 108 = .ok (.bipush (-12), 2) := by decide +kernel
theorem d_Law_operatorOf_110 : decode prog_6_method_10_code 110 = .ok (.goto 4, 3) := by decide +kernel
theorem d_Law_operatorOf_113 : decode prog_6_method_10_code 113 = .ok (.iconst 0, 1) := by decide +kernel
theorem d_Law_operatorOf_114 : decode prog_6_method_10_code 114 = .ok (.ireturn, 1) := by decide +kernel
theorem d_Law_operatorOf_115 : decode prog_6_method_10_code 115 = .ok (.iload_n 0, 1) := by decide +kernel
theorem d_Law_operatorOf_116 : decode prog_6_method_10_code 116 = .ok (.iconst 2, 1) := by decide +kernel
theorem d_Law_operatorOf_117 : decode prog_6_method_10_code 117 = .ok (.if_icmp .ne 8, 3) := by decide +kernel
theorem d_Law_operatorOf_120 : decode prog_6_method_10_code 120 = .ok (.bipush (-13), 2) := by decide +kernel
theorem d_Law_operatorOf_122 : decode prog_6_method_10_code 122 = .ok (.goto 4, 3) := by decide +kernel
theorem d_Law_operatorOf_125 : decode prog_6_method_10_code 125 = .ok (.iconst 0, 1) := by decide +kernel
theorem d_Law_operatorOf_126 : decode prog_6_method_10_code 126 = .ok (.ireturn, 1) := by decide +kernel
theorem d_Law_operatorOf_127 : decode prog_6_method_10_code 127 = .ok (.iload_n 0, 1) := by decide +kernel
theorem d_Law_operatorOf_128 : decode prog_6_method_10_code 128 = .ok (.iconst 2, 1) := by decide +kernel
theorem d_Law_operatorOf_129 : decode prog_6_method_10_code 129 = .ok (.if_icmp .ne 8, 3) := by decide +kernel
theorem d_Law_operatorOf_132 : decode prog_6_method_10_code 132 = .ok (.bipush (-14), 2) := by decide +kernel
theorem d_Law_operatorOf_134 : decode prog_6_method_10_code 134 = .ok (.goto 4, 3) := by decide +kernel
theorem d_Law_operatorOf_137 : decode prog_6_method_10_code 137 = .ok (.iconst 0, 1) := by decide +kernel
theorem d_Law_operatorOf_138 : decode prog_6_method_10_code 138 = .ok (.ireturn, 1) := by decide +kernel
theorem d_Law_operatorOf_139 : decode prog_6_method_10_code 139 = .ok (.iload_n 0, 1) := by decide +kernel
theorem d_Law_operatorOf_140 : decode prog_6_method_10_code 140 = .ok (.iconst 2, 1) := by decide +kernel
theorem d_Law_operatorOf_141 : decode prog_6_method_10_code 141 = .ok (.if_icmp .ne 8, 3) := by decide +kernel
theorem d_Law_operatorOf_144 : decode prog_6_method_10_code 144 = .ok (.bipush (-15), 2) := by decide +kernel
theorem d_Law_operatorOf_146 : decode prog_6_method_10_code 146 = .ok (.goto 4, 3) := by decide +kernel
theorem d_Law_operatorOf_149 : decode prog_6_method_10_code 149 = .ok (.iconst 0, 1) := by decide +kernel
theorem d_Law_operatorOf_150 : decode prog_6_method_10_code 150 = .ok (.ireturn, 1) := by decide +kernel
theorem d_Law_operatorOf_151 : decode prog_6_method_10_code 151 = .ok (.iload_n 0, 1) := by decide +kernel
theorem d_Law_operatorOf_152 : decode prog_6_method_10_code 152 = .ok (.iconst 3, 1) := by decide +kernel
theorem d_Law_operatorOf_153 : decode prog_6_method_10_code 153 = .ok (.if_icmp .ne 8, 3) := by decide +kernel
theorem d_Law_operatorOf_156 : decode prog_6_method_10_code 156 = .ok (.bipush (-16), 2) := by decide +kernel
theorem d_Law_operatorOf_158 : decode prog_6_method_10_code 158 = .ok (.goto 4, 3) := by decide +kernel
theorem d_Law_operatorOf_161 : decode prog_6_method_10_code 161 = .ok (.iconst 0, 1) := by decide +kernel
theorem d_Law_operatorOf_162 : decode prog_6_method_10_code 162 = .ok (.ireturn, 1) := by decide +kernel
theorem d_Law_operatorOf_163 : decode prog_6_method_10_code 163 = .ok (.iload_n 0, 1) := by decide +kernel
theorem d_Law_operatorOf_164 : decode prog_6_method_10_code 164 = .ok (.iconst 3, 1) := by decide +kernel
theorem d_Law_operatorOf_165 : decode prog_6_method_10_code 165 = .ok (.if_icmp .ne 8, 3) := by decide +kernel
theorem d_Law_operatorOf_168 : decode prog_6_method_10_code 168 = .ok (.bipush (-17), 2) := by decide +kernel
theorem d_Law_operatorOf_170 : decode prog_6_method_10_code 170 = .ok (.goto 4, 3) := by decide +kernel
theorem d_Law_operatorOf_173 : decode prog_6_method_10_code 173 = .ok (.iconst 0, 1) := by decide +kernel
theorem d_Law_operatorOf_174 : decode prog_6_method_10_code 174 = .ok (.ireturn, 1) := by decide +kernel
theorem d_Law_operatorOf_175 : decode prog_6_method_10_code 175 = .ok (.iload_n 0, 1) := by decide +kernel
theorem d_Law_operatorOf_176 : decode prog_6_method_10_code 176 = .ok (.iconst 4, 1) := by decide +kernel
theorem d_Law_operatorOf_177 : decode prog_6_method_10_code 177 = .ok (.if_icmp .ne 8, 3) := by decide +kernel
theorem d_Law_operatorOf_180 : decode prog_6_method_10_code 180 = .ok (.bipush (-18), 2) := by decide +kernel
theorem d_Law_operatorOf_182 : decode prog_6_method_10_code 182 = .ok (.goto 4, 3) := by decide +kernel
theorem d_Law_operatorOf_185 : decode prog_6_method_10_code 185 = .ok (.iconst 0, 1) := by decide +kernel
theorem d_Law_operatorOf_186 : decode prog_6_method_10_code 186 = .ok (.ireturn, 1) := by decide +kernel
theorem d_Law_operatorOf_187 : decode prog_6_method_10_code 187 = .ok (.iload_n 0, 1) := by decide +kernel
theorem d_Law_operatorOf_188 : decode prog_6_method_10_code 188 = .ok (.iconst 4, 1) := by decide +kernel
theorem d_Law_operatorOf_189 : decode prog_6_method_10_code 189 = .ok (.if_icmp .ne 8, 3) := by decide +kernel
theorem d_Law_operatorOf_192 : decode prog_6_method_10_code 192 = .ok (.bipush (-19), 2) := by decide +kernel
theorem d_Law_operatorOf_194 : decode prog_6_method_10_code 194 = .ok (.goto 4, 3) := by decide +kernel
theorem d_Law_operatorOf_197 : decode prog_6_method_10_code 197 = .ok (.iconst 0, 1) := by decide +kernel
theorem d_Law_operatorOf_198 : decode prog_6_method_10_code 198 = .ok (.ireturn, 1) := by decide +kernel
theorem d_Law_operatorOf_199 : decode prog_6_method_10_code 199 = .ok (.iload_n 0, 1) := by decide +kernel
theorem d_Law_operatorOf_200 : decode prog_6_method_10_code 200 = .ok (.iconst 4, 1) := by decide +kernel
theorem d_Law_operatorOf_201 : decode prog_6_method_10_code 201 = .ok (.if_icmp .ne 8, 3) := by decide +kernel
theorem d_Law_operatorOf_204 : decode prog_6_method_10_code 204 = .ok (.bipush (-20), 2) := by decide +kernel
theorem d_Law_operatorOf_206 : decode prog_6_method_10_code 206 = .ok (.goto 4, 3) := by decide +kernel
theorem d_Law_operatorOf_209 : decode prog_6_method_10_code 209 = .ok (.iconst 0, 1) := by decide +kernel
theorem d_Law_operatorOf_210 : decode prog_6_method_10_code 210 = .ok (.ireturn, 1) := by decide +kernel
theorem d_Law_operatorOf_211 : decode prog_6_method_10_code 211 = .ok (.iconst 0, 1) := by decide +kernel
theorem d_Law_operatorOf_212 : decode prog_6_method_10_code 212 = .ok (.ireturn, 1) := by decide +kernel
theorem b_Law_operatorOf_0 {d : Nat} {x0 : Int32} {x1 : Int32} {h : am_H} {Q : am_Q} (k37 : x1 = 37 → am_W (X_Law_operatorOf d) 199 [some (.int x0), some (.int x1)] [] h Q) (k38 : x1 = 38 → am_W (X_Law_operatorOf d) 103 [some (.int x0), some (.int x1)] [] h Q) (k42 : x1 = 42 → am_W (X_Law_operatorOf d) 175 [some (.int x0), some (.int x1)] [] h Q) (k43 : x1 = 43 → am_W (X_Law_operatorOf d) 151 [some (.int x0), some (.int x1)] [] h Q) (k45 : x1 = 45 → am_W (X_Law_operatorOf d) 163 [some (.int x0), some (.int x1)] [] h Q) (k47 : x1 = 47 → am_W (X_Law_operatorOf d) 187 [some (.int x0), some (.int x1)] [] h Q) (k60 : x1 = 60 → am_W (X_Law_operatorOf d) 115 [some (.int x0), some (.int x1)] [] h Q) (k61 : x1 = 61 → am_W (X_Law_operatorOf d) 127 [some (.int x0), some (.int x1)] [] h Q) (k62 : x1 = 62 → am_W (X_Law_operatorOf d) 139 [some (.int x0), some (.int x1)] [] h Q) (k124 : x1 = 124 → am_W (X_Law_operatorOf d) 92 [some (.int x0), some (.int x1)] [] h Q) (kd : ¬ x1 = 37 → ¬ x1 = 38 → ¬ x1 = 42 → ¬ x1 = 43 → ¬ x1 = 45 → ¬ x1 = 47 → ¬ x1 = 60 → ¬ x1 = 61 → ¬ x1 = 62 → ¬ x1 = 124 → am_W (X_Law_operatorOf d) 211 [some (.int x0), some (.int x1)] [] h Q) : am_W (X_Law_operatorOf d) 0 [some (.int x0), some (.int x1)] [] h Q := by
  refine am_iload_n d_Law_operatorOf_0 rfl (i := 1) rfl ?_
  by_cases e1 : x1 = 37
  · exact am_lookup (tgt := 199) (off := 198) d_Law_operatorOf_1 (by decide +kernel) (by rw [e1]; decide +kernel) (by decide) (k37 e1)
  by_cases e2 : x1 = 38
  · exact am_lookup (tgt := 103) (off := 102) d_Law_operatorOf_1 (by decide +kernel) (by rw [e2]; decide +kernel) (by decide) (k38 e2)
  by_cases e3 : x1 = 42
  · exact am_lookup (tgt := 175) (off := 174) d_Law_operatorOf_1 (by decide +kernel) (by rw [e3]; decide +kernel) (by decide) (k42 e3)
  by_cases e4 : x1 = 43
  · exact am_lookup (tgt := 151) (off := 150) d_Law_operatorOf_1 (by decide +kernel) (by rw [e4]; decide +kernel) (by decide) (k43 e4)
  by_cases e5 : x1 = 45
  · exact am_lookup (tgt := 163) (off := 162) d_Law_operatorOf_1 (by decide +kernel) (by rw [e5]; decide +kernel) (by decide) (k45 e5)
  by_cases e6 : x1 = 47
  · exact am_lookup (tgt := 187) (off := 186) d_Law_operatorOf_1 (by decide +kernel) (by rw [e6]; decide +kernel) (by decide) (k47 e6)
  by_cases e7 : x1 = 60
  · exact am_lookup (tgt := 115) (off := 114) d_Law_operatorOf_1 (by decide +kernel) (by rw [e7]; decide +kernel) (by decide) (k60 e7)
  by_cases e8 : x1 = 61
  · exact am_lookup (tgt := 127) (off := 126) d_Law_operatorOf_1 (by decide +kernel) (by rw [e8]; decide +kernel) (by decide) (k61 e8)
  by_cases e9 : x1 = 62
  · exact am_lookup (tgt := 139) (off := 138) d_Law_operatorOf_1 (by decide +kernel) (by rw [e9]; decide +kernel) (by decide) (k62 e9)
  by_cases e10 : x1 = 124
  · exact am_lookup (tgt := 92) (off := 91) d_Law_operatorOf_1 (by decide +kernel) (by rw [e10]; decide +kernel) (by decide) (k124 e10)
  refine am_lookup (tgt := 211) (off := 210) d_Law_operatorOf_1 (by decide +kernel) ?_ (by decide) (kd e1 e2 e3 e4 e5 e6 e7 e8 e9 e10)
  simp only [← Int32.toInt_inj] at e1 e2 e3 e4 e5 e6 e7 e8 e9 e10
  simp only [Int32.reduceToInt] at e1 e2 e3 e4 e5 e6 e7 e8 e9 e10
  simp only [Op.lookupswitch.offset]
  (repeat' split) <;> first | rfl | omega
theorem b_Law_operatorOf_92 {d : Nat} {x0 : Int32} {x1 : Int32} {h : am_H} {Q : am_Q} (kt : ¬ x0 = 0 → am_W (X_Law_operatorOf d) 101 [some (.int x0), some (.int x1)] [] h Q) (kf : x0 = 0 → am_W (X_Law_operatorOf d) 96 [some (.int x0), some (.int x1)] [] h Q) : am_W (X_Law_operatorOf d) 92 [some (.int x0), some (.int x1)] [] h Q :=
  am_iload_n d_Law_operatorOf_92 rfl (i := 0) rfl <|
    am_if_ne (tgt := 101) d_Law_operatorOf_93 (by decide) kt kf
theorem b_Law_operatorOf_96 {d : Nat} {x0 : Int32} {x1 : Int32} {h : am_H} {Q : am_Q} (q : Q (some (.int (-11))) h) : am_W (X_Law_operatorOf d) 96 [some (.int x0), some (.int x1)] [] h Q :=
  am_bipush (v := (-11)) d_Law_operatorOf_96 (by decide) <|
    am_goto (tgt := 102) d_Law_operatorOf_98 (by decide) <|
    am_iret rfl d_Law_operatorOf_102 q
theorem b_Law_operatorOf_101 {d : Nat} {x0 : Int32} {x1 : Int32} {h : am_H} {Q : am_Q} (q : Q (some (.int 0)) h) : am_W (X_Law_operatorOf d) 101 [some (.int x0), some (.int x1)] [] h Q :=
  am_iconst (v := 0) d_Law_operatorOf_101 (by decide) <|
    am_iret rfl d_Law_operatorOf_102 q
theorem b_Law_operatorOf_103 {d : Nat} {x0 : Int32} {x1 : Int32} {h : am_H} {Q : am_Q} (kt : ¬ x0 = 1 → am_W (X_Law_operatorOf d) 113 [some (.int x0), some (.int x1)] [] h Q) (kf : x0 = 1 → am_W (X_Law_operatorOf d) 108 [some (.int x0), some (.int x1)] [] h Q) : am_W (X_Law_operatorOf d) 103 [some (.int x0), some (.int x1)] [] h Q :=
  am_iload_n d_Law_operatorOf_103 rfl (i := 0) rfl <|
    am_iconst (v := 1) d_Law_operatorOf_104 (by decide) <|
    am_icmp_ne (tgt := 113) d_Law_operatorOf_105 (by decide) kt kf
theorem b_Law_operatorOf_108 {d : Nat} {x0 : Int32} {x1 : Int32} {h : am_H} {Q : am_Q} (q : Q (some (.int (-12))) h) : am_W (X_Law_operatorOf d) 108 [some (.int x0), some (.int x1)] [] h Q :=
  am_bipush (v := (-12)) d_Law_operatorOf_108 (by decide) <|
    am_goto (tgt := 114) d_Law_operatorOf_110 (by decide) <|
    am_iret rfl d_Law_operatorOf_114 q
theorem b_Law_operatorOf_113 {d : Nat} {x0 : Int32} {x1 : Int32} {h : am_H} {Q : am_Q} (q : Q (some (.int 0)) h) : am_W (X_Law_operatorOf d) 113 [some (.int x0), some (.int x1)] [] h Q :=
  am_iconst (v := 0) d_Law_operatorOf_113 (by decide) <|
    am_iret rfl d_Law_operatorOf_114 q
theorem b_Law_operatorOf_115 {d : Nat} {x0 : Int32} {x1 : Int32} {h : am_H} {Q : am_Q} (kt : ¬ x0 = 2 → am_W (X_Law_operatorOf d) 125 [some (.int x0), some (.int x1)] [] h Q) (kf : x0 = 2 → am_W (X_Law_operatorOf d) 120 [some (.int x0), some (.int x1)] [] h Q) : am_W (X_Law_operatorOf d) 115 [some (.int x0), some (.int x1)] [] h Q :=
  am_iload_n d_Law_operatorOf_115 rfl (i := 0) rfl <|
    am_iconst (v := 2) d_Law_operatorOf_116 (by decide) <|
    am_icmp_ne (tgt := 125) d_Law_operatorOf_117 (by decide) kt kf
theorem b_Law_operatorOf_120 {d : Nat} {x0 : Int32} {x1 : Int32} {h : am_H} {Q : am_Q} (q : Q (some (.int (-13))) h) : am_W (X_Law_operatorOf d) 120 [some (.int x0), some (.int x1)] [] h Q :=
  am_bipush (v := (-13)) d_Law_operatorOf_120 (by decide) <|
    am_goto (tgt := 126) d_Law_operatorOf_122 (by decide) <|
    am_iret rfl d_Law_operatorOf_126 q
theorem b_Law_operatorOf_125 {d : Nat} {x0 : Int32} {x1 : Int32} {h : am_H} {Q : am_Q} (q : Q (some (.int 0)) h) : am_W (X_Law_operatorOf d) 125 [some (.int x0), some (.int x1)] [] h Q :=
  am_iconst (v := 0) d_Law_operatorOf_125 (by decide) <|
    am_iret rfl d_Law_operatorOf_126 q
theorem b_Law_operatorOf_127 {d : Nat} {x0 : Int32} {x1 : Int32} {h : am_H} {Q : am_Q} (kt : ¬ x0 = 2 → am_W (X_Law_operatorOf d) 137 [some (.int x0), some (.int x1)] [] h Q) (kf : x0 = 2 → am_W (X_Law_operatorOf d) 132 [some (.int x0), some (.int x1)] [] h Q) : am_W (X_Law_operatorOf d) 127 [some (.int x0), some (.int x1)] [] h Q :=
  am_iload_n d_Law_operatorOf_127 rfl (i := 0) rfl <|
    am_iconst (v := 2) d_Law_operatorOf_128 (by decide) <|
    am_icmp_ne (tgt := 137) d_Law_operatorOf_129 (by decide) kt kf
theorem b_Law_operatorOf_132 {d : Nat} {x0 : Int32} {x1 : Int32} {h : am_H} {Q : am_Q} (q : Q (some (.int (-14))) h) : am_W (X_Law_operatorOf d) 132 [some (.int x0), some (.int x1)] [] h Q :=
  am_bipush (v := (-14)) d_Law_operatorOf_132 (by decide) <|
    am_goto (tgt := 138) d_Law_operatorOf_134 (by decide) <|
    am_iret rfl d_Law_operatorOf_138 q
theorem b_Law_operatorOf_137 {d : Nat} {x0 : Int32} {x1 : Int32} {h : am_H} {Q : am_Q} (q : Q (some (.int 0)) h) : am_W (X_Law_operatorOf d) 137 [some (.int x0), some (.int x1)] [] h Q :=
  am_iconst (v := 0) d_Law_operatorOf_137 (by decide) <|
    am_iret rfl d_Law_operatorOf_138 q
theorem b_Law_operatorOf_139 {d : Nat} {x0 : Int32} {x1 : Int32} {h : am_H} {Q : am_Q} (kt : ¬ x0 = 2 → am_W (X_Law_operatorOf d) 149 [some (.int x0), some (.int x1)] [] h Q) (kf : x0 = 2 → am_W (X_Law_operatorOf d) 144 [some (.int x0), some (.int x1)] [] h Q) : am_W (X_Law_operatorOf d) 139 [some (.int x0), some (.int x1)] [] h Q :=
  am_iload_n d_Law_operatorOf_139 rfl (i := 0) rfl <|
    am_iconst (v := 2) d_Law_operatorOf_140 (by decide) <|
    am_icmp_ne (tgt := 149) d_Law_operatorOf_141 (by decide) kt kf
theorem b_Law_operatorOf_144 {d : Nat} {x0 : Int32} {x1 : Int32} {h : am_H} {Q : am_Q} (q : Q (some (.int (-15))) h) : am_W (X_Law_operatorOf d) 144 [some (.int x0), some (.int x1)] [] h Q :=
  am_bipush (v := (-15)) d_Law_operatorOf_144 (by decide) <|
    am_goto (tgt := 150) d_Law_operatorOf_146 (by decide) <|
    am_iret rfl d_Law_operatorOf_150 q
theorem b_Law_operatorOf_149 {d : Nat} {x0 : Int32} {x1 : Int32} {h : am_H} {Q : am_Q} (q : Q (some (.int 0)) h) : am_W (X_Law_operatorOf d) 149 [some (.int x0), some (.int x1)] [] h Q :=
  am_iconst (v := 0) d_Law_operatorOf_149 (by decide) <|
    am_iret rfl d_Law_operatorOf_150 q
theorem b_Law_operatorOf_151 {d : Nat} {x0 : Int32} {x1 : Int32} {h : am_H} {Q : am_Q} (kt : ¬ x0 = 3 → am_W (X_Law_operatorOf d) 161 [some (.int x0), some (.int x1)] [] h Q) (kf : x0 = 3 → am_W (X_Law_operatorOf d) 156 [some (.int x0), some (.int x1)] [] h Q) : am_W (X_Law_operatorOf d) 151 [some (.int x0), some (.int x1)] [] h Q :=
  am_iload_n d_Law_operatorOf_151 rfl (i := 0) rfl <|
    am_iconst (v := 3) d_Law_operatorOf_152 (by decide) <|
    am_icmp_ne (tgt := 161) d_Law_operatorOf_153 (by decide) kt kf
theorem b_Law_operatorOf_156 {d : Nat} {x0 : Int32} {x1 : Int32} {h : am_H} {Q : am_Q} (q : Q (some (.int (-16))) h) : am_W (X_Law_operatorOf d) 156 [some (.int x0), some (.int x1)] [] h Q :=
  am_bipush (v := (-16)) d_Law_operatorOf_156 (by decide) <|
    am_goto (tgt := 162) d_Law_operatorOf_158 (by decide) <|
    am_iret rfl d_Law_operatorOf_162 q
theorem b_Law_operatorOf_161 {d : Nat} {x0 : Int32} {x1 : Int32} {h : am_H} {Q : am_Q} (q : Q (some (.int 0)) h) : am_W (X_Law_operatorOf d) 161 [some (.int x0), some (.int x1)] [] h Q :=
  am_iconst (v := 0) d_Law_operatorOf_161 (by decide) <|
    am_iret rfl d_Law_operatorOf_162 q
theorem b_Law_operatorOf_163 {d : Nat} {x0 : Int32} {x1 : Int32} {h : am_H} {Q : am_Q} (kt : ¬ x0 = 3 → am_W (X_Law_operatorOf d) 173 [some (.int x0), some (.int x1)] [] h Q) (kf : x0 = 3 → am_W (X_Law_operatorOf d) 168 [some (.int x0), some (.int x1)] [] h Q) : am_W (X_Law_operatorOf d) 163 [some (.int x0), some (.int x1)] [] h Q :=
  am_iload_n d_Law_operatorOf_163 rfl (i := 0) rfl <|
    am_iconst (v := 3) d_Law_operatorOf_164 (by decide) <|
    am_icmp_ne (tgt := 173) d_Law_operatorOf_165 (by decide) kt kf
theorem b_Law_operatorOf_168 {d : Nat} {x0 : Int32} {x1 : Int32} {h : am_H} {Q : am_Q} (q : Q (some (.int (-17))) h) : am_W (X_Law_operatorOf d) 168 [some (.int x0), some (.int x1)] [] h Q :=
  am_bipush (v := (-17)) d_Law_operatorOf_168 (by decide) <|
    am_goto (tgt := 174) d_Law_operatorOf_170 (by decide) <|
    am_iret rfl d_Law_operatorOf_174 q
theorem b_Law_operatorOf_173 {d : Nat} {x0 : Int32} {x1 : Int32} {h : am_H} {Q : am_Q} (q : Q (some (.int 0)) h) : am_W (X_Law_operatorOf d) 173 [some (.int x0), some (.int x1)] [] h Q :=
  am_iconst (v := 0) d_Law_operatorOf_173 (by decide) <|
    am_iret rfl d_Law_operatorOf_174 q
theorem b_Law_operatorOf_175 {d : Nat} {x0 : Int32} {x1 : Int32} {h : am_H} {Q : am_Q} (kt : ¬ x0 = 4 → am_W (X_Law_operatorOf d) 185 [some (.int x0), some (.int x1)] [] h Q) (kf : x0 = 4 → am_W (X_Law_operatorOf d) 180 [some (.int x0), some (.int x1)] [] h Q) : am_W (X_Law_operatorOf d) 175 [some (.int x0), some (.int x1)] [] h Q :=
  am_iload_n d_Law_operatorOf_175 rfl (i := 0) rfl <|
    am_iconst (v := 4) d_Law_operatorOf_176 (by decide) <|
    am_icmp_ne (tgt := 185) d_Law_operatorOf_177 (by decide) kt kf
theorem b_Law_operatorOf_180 {d : Nat} {x0 : Int32} {x1 : Int32} {h : am_H} {Q : am_Q} (q : Q (some (.int (-18))) h) : am_W (X_Law_operatorOf d) 180 [some (.int x0), some (.int x1)] [] h Q :=
  am_bipush (v := (-18)) d_Law_operatorOf_180 (by decide) <|
    am_goto (tgt := 186) d_Law_operatorOf_182 (by decide) <|
    am_iret rfl d_Law_operatorOf_186 q
theorem b_Law_operatorOf_185 {d : Nat} {x0 : Int32} {x1 : Int32} {h : am_H} {Q : am_Q} (q : Q (some (.int 0)) h) : am_W (X_Law_operatorOf d) 185 [some (.int x0), some (.int x1)] [] h Q :=
  am_iconst (v := 0) d_Law_operatorOf_185 (by decide) <|
    am_iret rfl d_Law_operatorOf_186 q
theorem b_Law_operatorOf_187 {d : Nat} {x0 : Int32} {x1 : Int32} {h : am_H} {Q : am_Q} (kt : ¬ x0 = 4 → am_W (X_Law_operatorOf d) 197 [some (.int x0), some (.int x1)] [] h Q) (kf : x0 = 4 → am_W (X_Law_operatorOf d) 192 [some (.int x0), some (.int x1)] [] h Q) : am_W (X_Law_operatorOf d) 187 [some (.int x0), some (.int x1)] [] h Q :=
  am_iload_n d_Law_operatorOf_187 rfl (i := 0) rfl <|
    am_iconst (v := 4) d_Law_operatorOf_188 (by decide) <|
    am_icmp_ne (tgt := 197) d_Law_operatorOf_189 (by decide) kt kf
theorem b_Law_operatorOf_192 {d : Nat} {x0 : Int32} {x1 : Int32} {h : am_H} {Q : am_Q} (q : Q (some (.int (-19))) h) : am_W (X_Law_operatorOf d) 192 [some (.int x0), some (.int x1)] [] h Q :=
  am_bipush (v := (-19)) d_Law_operatorOf_192 (by decide) <|
    am_goto (tgt := 198) d_Law_operatorOf_194 (by decide) <|
    am_iret rfl d_Law_operatorOf_198 q
theorem b_Law_operatorOf_197 {d : Nat} {x0 : Int32} {x1 : Int32} {h : am_H} {Q : am_Q} (q : Q (some (.int 0)) h) : am_W (X_Law_operatorOf d) 197 [some (.int x0), some (.int x1)] [] h Q :=
  am_iconst (v := 0) d_Law_operatorOf_197 (by decide) <|
    am_iret rfl d_Law_operatorOf_198 q
theorem b_Law_operatorOf_199 {d : Nat} {x0 : Int32} {x1 : Int32} {h : am_H} {Q : am_Q} (kt : ¬ x0 = 4 → am_W (X_Law_operatorOf d) 209 [some (.int x0), some (.int x1)] [] h Q) (kf : x0 = 4 → am_W (X_Law_operatorOf d) 204 [some (.int x0), some (.int x1)] [] h Q) : am_W (X_Law_operatorOf d) 199 [some (.int x0), some (.int x1)] [] h Q :=
  am_iload_n d_Law_operatorOf_199 rfl (i := 0) rfl <|
    am_iconst (v := 4) d_Law_operatorOf_200 (by decide) <|
    am_icmp_ne (tgt := 209) d_Law_operatorOf_201 (by decide) kt kf
theorem b_Law_operatorOf_204 {d : Nat} {x0 : Int32} {x1 : Int32} {h : am_H} {Q : am_Q} (q : Q (some (.int (-20))) h) : am_W (X_Law_operatorOf d) 204 [some (.int x0), some (.int x1)] [] h Q :=
  am_bipush (v := (-20)) d_Law_operatorOf_204 (by decide) <|
    am_goto (tgt := 210) d_Law_operatorOf_206 (by decide) <|
    am_iret rfl d_Law_operatorOf_210 q
theorem b_Law_operatorOf_209 {d : Nat} {x0 : Int32} {x1 : Int32} {h : am_H} {Q : am_Q} (q : Q (some (.int 0)) h) : am_W (X_Law_operatorOf d) 209 [some (.int x0), some (.int x1)] [] h Q :=
  am_iconst (v := 0) d_Law_operatorOf_209 (by decide) <|
    am_iret rfl d_Law_operatorOf_210 q
theorem b_Law_operatorOf_211 {d : Nat} {x0 : Int32} {x1 : Int32} {h : am_H} {Q : am_Q} (q : Q (some (.int 0)) h) : am_W (X_Law_operatorOf d) 211 [some (.int x0), some (.int x1)] [] h Q :=
  am_iconst (v := 0) d_Law_operatorOf_211 (by decide) <|
    am_iret rfl d_Law_operatorOf_212 q
theorem t_Law_operatorOf_209 {d : Nat} {x0 : Int32} {x1 : Int32} {h : am_H} {Q : am_Q} {res : Int32} (e : f_Law_operatorOf_209 = res) (q : Q (some (.int res)) h) : am_W (X_Law_operatorOf d) 209 [some (.int x0), some (.int x1)] [] h Q :=
  b_Law_operatorOf_209 (d := d) (q := (am_rIt (v := 0) e q))
theorem t_Law_operatorOf_204 {d : Nat} {x0 : Int32} {x1 : Int32} {h : am_H} {Q : am_Q} {res : Int32} (e : f_Law_operatorOf_204 = res) (q : Q (some (.int res)) h) : am_W (X_Law_operatorOf d) 204 [some (.int x0), some (.int x1)] [] h Q :=
  b_Law_operatorOf_204 (d := d) (q := (am_rIt (v := (-20)) e q))
theorem t_Law_operatorOf_199 {d : Nat} {x0 : Int32} {x1 : Int32} {h : am_H} {Q : am_Q} {res : Int32} (e : f_Law_operatorOf_199 x0 = res) (q : Q (some (.int res)) h) : am_W (X_Law_operatorOf d) 199 [some (.int x0), some (.int x1)] [] h Q :=
  b_Law_operatorOf_199 (d := d) (kt := fun c => (t_Law_operatorOf_209 (am_ife e c) q)) (kf := fun c => (t_Law_operatorOf_204 (am_ift e c) q))
theorem t_Law_operatorOf_113 {d : Nat} {x0 : Int32} {x1 : Int32} {h : am_H} {Q : am_Q} {res : Int32} (e : f_Law_operatorOf_113 = res) (q : Q (some (.int res)) h) : am_W (X_Law_operatorOf d) 113 [some (.int x0), some (.int x1)] [] h Q :=
  b_Law_operatorOf_113 (d := d) (q := (am_rIt (v := 0) e q))
theorem t_Law_operatorOf_108 {d : Nat} {x0 : Int32} {x1 : Int32} {h : am_H} {Q : am_Q} {res : Int32} (e : f_Law_operatorOf_108 = res) (q : Q (some (.int res)) h) : am_W (X_Law_operatorOf d) 108 [some (.int x0), some (.int x1)] [] h Q :=
  b_Law_operatorOf_108 (d := d) (q := (am_rIt (v := (-12)) e q))
theorem t_Law_operatorOf_103 {d : Nat} {x0 : Int32} {x1 : Int32} {h : am_H} {Q : am_Q} {res : Int32} (e : f_Law_operatorOf_103 x0 = res) (q : Q (some (.int res)) h) : am_W (X_Law_operatorOf d) 103 [some (.int x0), some (.int x1)] [] h Q :=
  b_Law_operatorOf_103 (d := d) (kt := fun c => (t_Law_operatorOf_113 (am_ife e c) q)) (kf := fun c => (t_Law_operatorOf_108 (am_ift e c) q))
theorem t_Law_operatorOf_185 {d : Nat} {x0 : Int32} {x1 : Int32} {h : am_H} {Q : am_Q} {res : Int32} (e : f_Law_operatorOf_185 = res) (q : Q (some (.int res)) h) : am_W (X_Law_operatorOf d) 185 [some (.int x0), some (.int x1)] [] h Q :=
  b_Law_operatorOf_185 (d := d) (q := (am_rIt (v := 0) e q))
theorem t_Law_operatorOf_180 {d : Nat} {x0 : Int32} {x1 : Int32} {h : am_H} {Q : am_Q} {res : Int32} (e : f_Law_operatorOf_180 = res) (q : Q (some (.int res)) h) : am_W (X_Law_operatorOf d) 180 [some (.int x0), some (.int x1)] [] h Q :=
  b_Law_operatorOf_180 (d := d) (q := (am_rIt (v := (-18)) e q))
theorem t_Law_operatorOf_175 {d : Nat} {x0 : Int32} {x1 : Int32} {h : am_H} {Q : am_Q} {res : Int32} (e : f_Law_operatorOf_175 x0 = res) (q : Q (some (.int res)) h) : am_W (X_Law_operatorOf d) 175 [some (.int x0), some (.int x1)] [] h Q :=
  b_Law_operatorOf_175 (d := d) (kt := fun c => (t_Law_operatorOf_185 (am_ife e c) q)) (kf := fun c => (t_Law_operatorOf_180 (am_ift e c) q))
theorem t_Law_operatorOf_161 {d : Nat} {x0 : Int32} {x1 : Int32} {h : am_H} {Q : am_Q} {res : Int32} (e : f_Law_operatorOf_161 = res) (q : Q (some (.int res)) h) : am_W (X_Law_operatorOf d) 161 [some (.int x0), some (.int x1)] [] h Q :=
  b_Law_operatorOf_161 (d := d) (q := (am_rIt (v := 0) e q))
theorem t_Law_operatorOf_156 {d : Nat} {x0 : Int32} {x1 : Int32} {h : am_H} {Q : am_Q} {res : Int32} (e : f_Law_operatorOf_156 = res) (q : Q (some (.int res)) h) : am_W (X_Law_operatorOf d) 156 [some (.int x0), some (.int x1)] [] h Q :=
  b_Law_operatorOf_156 (d := d) (q := (am_rIt (v := (-16)) e q))
theorem t_Law_operatorOf_151 {d : Nat} {x0 : Int32} {x1 : Int32} {h : am_H} {Q : am_Q} {res : Int32} (e : f_Law_operatorOf_151 x0 = res) (q : Q (some (.int res)) h) : am_W (X_Law_operatorOf d) 151 [some (.int x0), some (.int x1)] [] h Q :=
  b_Law_operatorOf_151 (d := d) (kt := fun c => (t_Law_operatorOf_161 (am_ife e c) q)) (kf := fun c => (t_Law_operatorOf_156 (am_ift e c) q))
theorem t_Law_operatorOf_173 {d : Nat} {x0 : Int32} {x1 : Int32} {h : am_H} {Q : am_Q} {res : Int32} (e : f_Law_operatorOf_173 = res) (q : Q (some (.int res)) h) : am_W (X_Law_operatorOf d) 173 [some (.int x0), some (.int x1)] [] h Q :=
  b_Law_operatorOf_173 (d := d) (q := (am_rIt (v := 0) e q))
theorem t_Law_operatorOf_168 {d : Nat} {x0 : Int32} {x1 : Int32} {h : am_H} {Q : am_Q} {res : Int32} (e : f_Law_operatorOf_168 = res) (q : Q (some (.int res)) h) : am_W (X_Law_operatorOf d) 168 [some (.int x0), some (.int x1)] [] h Q :=
  b_Law_operatorOf_168 (d := d) (q := (am_rIt (v := (-17)) e q))
theorem t_Law_operatorOf_163 {d : Nat} {x0 : Int32} {x1 : Int32} {h : am_H} {Q : am_Q} {res : Int32} (e : f_Law_operatorOf_163 x0 = res) (q : Q (some (.int res)) h) : am_W (X_Law_operatorOf d) 163 [some (.int x0), some (.int x1)] [] h Q :=
  b_Law_operatorOf_163 (d := d) (kt := fun c => (t_Law_operatorOf_173 (am_ife e c) q)) (kf := fun c => (t_Law_operatorOf_168 (am_ift e c) q))
theorem t_Law_operatorOf_197 {d : Nat} {x0 : Int32} {x1 : Int32} {h : am_H} {Q : am_Q} {res : Int32} (e : f_Law_operatorOf_197 = res) (q : Q (some (.int res)) h) : am_W (X_Law_operatorOf d) 197 [some (.int x0), some (.int x1)] [] h Q :=
  b_Law_operatorOf_197 (d := d) (q := (am_rIt (v := 0) e q))
theorem t_Law_operatorOf_192 {d : Nat} {x0 : Int32} {x1 : Int32} {h : am_H} {Q : am_Q} {res : Int32} (e : f_Law_operatorOf_192 = res) (q : Q (some (.int res)) h) : am_W (X_Law_operatorOf d) 192 [some (.int x0), some (.int x1)] [] h Q :=
  b_Law_operatorOf_192 (d := d) (q := (am_rIt (v := (-19)) e q))
theorem t_Law_operatorOf_187 {d : Nat} {x0 : Int32} {x1 : Int32} {h : am_H} {Q : am_Q} {res : Int32} (e : f_Law_operatorOf_187 x0 = res) (q : Q (some (.int res)) h) : am_W (X_Law_operatorOf d) 187 [some (.int x0), some (.int x1)] [] h Q :=
  b_Law_operatorOf_187 (d := d) (kt := fun c => (t_Law_operatorOf_197 (am_ife e c) q)) (kf := fun c => (t_Law_operatorOf_192 (am_ift e c) q))
theorem t_Law_operatorOf_125 {d : Nat} {x0 : Int32} {x1 : Int32} {h : am_H} {Q : am_Q} {res : Int32} (e : f_Law_operatorOf_125 = res) (q : Q (some (.int res)) h) : am_W (X_Law_operatorOf d) 125 [some (.int x0), some (.int x1)] [] h Q :=
  b_Law_operatorOf_125 (d := d) (q := (am_rIt (v := 0) e q))
theorem t_Law_operatorOf_120 {d : Nat} {x0 : Int32} {x1 : Int32} {h : am_H} {Q : am_Q} {res : Int32} (e : f_Law_operatorOf_120 = res) (q : Q (some (.int res)) h) : am_W (X_Law_operatorOf d) 120 [some (.int x0), some (.int x1)] [] h Q :=
  b_Law_operatorOf_120 (d := d) (q := (am_rIt (v := (-13)) e q))
theorem t_Law_operatorOf_115 {d : Nat} {x0 : Int32} {x1 : Int32} {h : am_H} {Q : am_Q} {res : Int32} (e : f_Law_operatorOf_115 x0 = res) (q : Q (some (.int res)) h) : am_W (X_Law_operatorOf d) 115 [some (.int x0), some (.int x1)] [] h Q :=
  b_Law_operatorOf_115 (d := d) (kt := fun c => (t_Law_operatorOf_125 (am_ife e c) q)) (kf := fun c => (t_Law_operatorOf_120 (am_ift e c) q))
theorem t_Law_operatorOf_137 {d : Nat} {x0 : Int32} {x1 : Int32} {h : am_H} {Q : am_Q} {res : Int32} (e : f_Law_operatorOf_137 = res) (q : Q (some (.int res)) h) : am_W (X_Law_operatorOf d) 137 [some (.int x0), some (.int x1)] [] h Q :=
  b_Law_operatorOf_137 (d := d) (q := (am_rIt (v := 0) e q))
theorem t_Law_operatorOf_132 {d : Nat} {x0 : Int32} {x1 : Int32} {h : am_H} {Q : am_Q} {res : Int32} (e : f_Law_operatorOf_132 = res) (q : Q (some (.int res)) h) : am_W (X_Law_operatorOf d) 132 [some (.int x0), some (.int x1)] [] h Q :=
  b_Law_operatorOf_132 (d := d) (q := (am_rIt (v := (-14)) e q))
theorem t_Law_operatorOf_127 {d : Nat} {x0 : Int32} {x1 : Int32} {h : am_H} {Q : am_Q} {res : Int32} (e : f_Law_operatorOf_127 x0 = res) (q : Q (some (.int res)) h) : am_W (X_Law_operatorOf d) 127 [some (.int x0), some (.int x1)] [] h Q :=
  b_Law_operatorOf_127 (d := d) (kt := fun c => (t_Law_operatorOf_137 (am_ife e c) q)) (kf := fun c => (t_Law_operatorOf_132 (am_ift e c) q))
theorem t_Law_operatorOf_149 {d : Nat} {x0 : Int32} {x1 : Int32} {h : am_H} {Q : am_Q} {res : Int32} (e : f_Law_operatorOf_149 = res) (q : Q (some (.int res)) h) : am_W (X_Law_operatorOf d) 149 [some (.int x0), some (.int x1)] [] h Q :=
  b_Law_operatorOf_149 (d := d) (q := (am_rIt (v := 0) e q))
theorem t_Law_operatorOf_144 {d : Nat} {x0 : Int32} {x1 : Int32} {h : am_H} {Q : am_Q} {res : Int32} (e : f_Law_operatorOf_144 = res) (q : Q (some (.int res)) h) : am_W (X_Law_operatorOf d) 144 [some (.int x0), some (.int x1)] [] h Q :=
  b_Law_operatorOf_144 (d := d) (q := (am_rIt (v := (-15)) e q))
theorem t_Law_operatorOf_139 {d : Nat} {x0 : Int32} {x1 : Int32} {h : am_H} {Q : am_Q} {res : Int32} (e : f_Law_operatorOf_139 x0 = res) (q : Q (some (.int res)) h) : am_W (X_Law_operatorOf d) 139 [some (.int x0), some (.int x1)] [] h Q :=
  b_Law_operatorOf_139 (d := d) (kt := fun c => (t_Law_operatorOf_149 (am_ife e c) q)) (kf := fun c => (t_Law_operatorOf_144 (am_ift e c) q))
theorem t_Law_operatorOf_101 {d : Nat} {x0 : Int32} {x1 : Int32} {h : am_H} {Q : am_Q} {res : Int32} (e : f_Law_operatorOf_101 = res) (q : Q (some (.int res)) h) : am_W (X_Law_operatorOf d) 101 [some (.int x0), some (.int x1)] [] h Q :=
  b_Law_operatorOf_101 (d := d) (q := (am_rIt (v := 0) e q))
theorem t_Law_operatorOf_96 {d : Nat} {x0 : Int32} {x1 : Int32} {h : am_H} {Q : am_Q} {res : Int32} (e : f_Law_operatorOf_96 = res) (q : Q (some (.int res)) h) : am_W (X_Law_operatorOf d) 96 [some (.int x0), some (.int x1)] [] h Q :=
  b_Law_operatorOf_96 (d := d) (q := (am_rIt (v := (-11)) e q))
theorem t_Law_operatorOf_92 {d : Nat} {x0 : Int32} {x1 : Int32} {h : am_H} {Q : am_Q} {res : Int32} (e : f_Law_operatorOf_92 x0 = res) (q : Q (some (.int res)) h) : am_W (X_Law_operatorOf d) 92 [some (.int x0), some (.int x1)] [] h Q :=
  b_Law_operatorOf_92 (d := d) (kt := fun c => (t_Law_operatorOf_101 (am_ife e c) q)) (kf := fun c => (t_Law_operatorOf_96 (am_ift e c) q))
theorem t_Law_operatorOf_211 {d : Nat} {x0 : Int32} {x1 : Int32} {h : am_H} {Q : am_Q} {res : Int32} (e : f_Law_operatorOf_211 = res) (q : Q (some (.int res)) h) : am_W (X_Law_operatorOf d) 211 [some (.int x0), some (.int x1)] [] h Q :=
  b_Law_operatorOf_211 (d := d) (q := (am_rIt (v := 0) e q))
theorem t_Law_operatorOf_0 {d : Nat} {x0 : Int32} {x1 : Int32} {h : am_H} {Q : am_Q} {res : Int32} (e : f_Law_operatorOf x0 x1 = res) (q : Q (some (.int res)) h) : am_W (X_Law_operatorOf d) 0 [some (.int x0), some (.int x1)] [] h Q :=
  b_Law_operatorOf_0 (d := d) (k37 := fun c => (t_Law_operatorOf_199 (am_ift e c) q)) (k38 := fun c => (t_Law_operatorOf_103 (am_ift (am_ife e (fun z => absurd (c.symm.trans z) (by decide))) c) q)) (k42 := fun c => (t_Law_operatorOf_175 (am_ift (am_ife (am_ife e (fun z => absurd (c.symm.trans z) (by decide))) (fun z => absurd (c.symm.trans z) (by decide))) c) q)) (k43 := fun c => (t_Law_operatorOf_151 (am_ift (am_ife (am_ife (am_ife e (fun z => absurd (c.symm.trans z) (by decide))) (fun z => absurd (c.symm.trans z) (by decide))) (fun z => absurd (c.symm.trans z) (by decide))) c) q)) (k45 := fun c => (t_Law_operatorOf_163 (am_ift (am_ife (am_ife (am_ife (am_ife e (fun z => absurd (c.symm.trans z) (by decide))) (fun z => absurd (c.symm.trans z) (by decide))) (fun z => absurd (c.symm.trans z) (by decide))) (fun z => absurd (c.symm.trans z) (by decide))) c) q)) (k47 := fun c => (t_Law_operatorOf_187 (am_ift (am_ife (am_ife (am_ife (am_ife (am_ife e (fun z => absurd (c.symm.trans z) (by decide))) (fun z => absurd (c.symm.trans z) (by decide))) (fun z => absurd (c.symm.trans z) (by decide))) (fun z => absurd (c.symm.trans z) (by decide))) (fun z => absurd (c.symm.trans z) (by decide))) c) q)) (k60 := fun c => (t_Law_operatorOf_115 (am_ift (am_ife (am_ife (am_ife (am_ife (am_ife (am_ife e (fun z => absurd (c.symm.trans z) (by decide))) (fun z => absurd (c.symm.trans z) (by decide))) (fun z => absurd (c.symm.trans z) (by decide))) (fun z => absurd (c.symm.trans z) (by decide))) (fun z => absurd (c.symm.trans z) (by decide))) (fun z => absurd (c.symm.trans z) (by decide))) c) q)) (k61 := fun c => (t_Law_operatorOf_127 (am_ift (am_ife (am_ife (am_ife (am_ife (am_ife (am_ife (am_ife e (fun z => absurd (c.symm.trans z) (by decide))) (fun z => absurd (c.symm.trans z) (by decide))) (fun z => absurd (c.symm.trans z) (by decide))) (fun z => absurd (c.symm.trans z) (by decide))) (fun z => absurd (c.symm.trans z) (by decide))) (fun z => absurd (c.symm.trans z) (by decide))) (fun z => absurd (c.symm.trans z) (by decide))) c) q)) (k62 := fun c => (t_Law_operatorOf_139 (am_ift (am_ife (am_ife (am_ife (am_ife (am_ife (am_ife (am_ife (am_ife e (fun z => absurd (c.symm.trans z) (by decide))) (fun z => absurd (c.symm.trans z) (by decide))) (fun z => absurd (c.symm.trans z) (by decide))) (fun z => absurd (c.symm.trans z) (by decide))) (fun z => absurd (c.symm.trans z) (by decide))) (fun z => absurd (c.symm.trans z) (by decide))) (fun z => absurd (c.symm.trans z) (by decide))) (fun z => absurd (c.symm.trans z) (by decide))) c) q)) (k124 := fun c => (t_Law_operatorOf_92 (am_ift (am_ife (am_ife (am_ife (am_ife (am_ife (am_ife (am_ife (am_ife (am_ife e (fun z => absurd (c.symm.trans z) (by decide))) (fun z => absurd (c.symm.trans z) (by decide))) (fun z => absurd (c.symm.trans z) (by decide))) (fun z => absurd (c.symm.trans z) (by decide))) (fun z => absurd (c.symm.trans z) (by decide))) (fun z => absurd (c.symm.trans z) (by decide))) (fun z => absurd (c.symm.trans z) (by decide))) (fun z => absurd (c.symm.trans z) (by decide))) (fun z => absurd (c.symm.trans z) (by decide))) c) q)) (kd := fun c0 c1 c2 c3 c4 c5 c6 c7 c8 c9 => (t_Law_operatorOf_211 (am_ife (am_ife (am_ife (am_ife (am_ife (am_ife (am_ife (am_ife (am_ife (am_ife e c0) c1) c2) c3) c4) c5) c6) c7) c8) c9) q))
theorem c_Law_operatorOf {d : Nat} {x0 : Int32} {x1 : Int32} {h : am_H} {Q : am_Q} {res : Int32} (e : f_Law_operatorOf x0 x1 = res) (q : Q (some (.int res)) h) : m_Law_operatorOf d [.int x0, .int x1] h Q :=
  e_Law_operatorOf (t_Law_operatorOf_0 e q)
theorem d_Law_isDigit_0 : decode prog_6_method_15_code 0 = .ok (.iload_n 0, 1) := by decide +kernel
theorem d_Law_isDigit_1 : decode prog_6_method_15_code 1 = .ok (.bipush 48, 2) := by decide +kernel
theorem d_Law_isDigit_3 : decode prog_6_method_15_code 3 = .ok (.if_icmp .lt 13, 3) := by decide +kernel
theorem d_Law_isDigit_6 : decode prog_6_method_15_code 6 = .ok (.iload_n 0, 1) := by decide +kernel
theorem d_Law_isDigit_7 : decode prog_6_method_15_code 7 = .ok (.bipush 57, 2) := by decide +kernel
theorem d_Law_isDigit_9 : decode prog_6_method_15_code 9 = .ok (.if_icmp .gt 7, 3) := by decide +kernel
theorem d_Law_isDigit_12 : decode prog_6_method_15_code 12 = .ok (.iconst 1, 1) := by decide +kernel
theorem d_Law_isDigit_13 : decode prog_6_method_15_code 13 = .ok (.goto 4, 3) := by decide +kernel
theorem d_Law_isDigit_16 : decode prog_6_method_15_code 16 = .ok (.iconst 0, 1) := by decide +kernel
theorem d_Law_isDigit_17 : decode prog_6_method_15_code 17 = .ok (.ireturn, 1) := by decide +kernel
theorem b_Law_isDigit_0 {d : Nat} {x0 : Int32} {h : am_H} {Q : am_Q} (kt : x0 < 48 → am_W (X_Law_isDigit d) 16 [some (.int x0)] [] h Q) (kf : ¬ x0 < 48 → am_W (X_Law_isDigit d) 6 [some (.int x0)] [] h Q) : am_W (X_Law_isDigit d) 0 [some (.int x0)] [] h Q :=
  am_iload_n d_Law_isDigit_0 rfl (i := 0) rfl <|
    am_bipush (v := 48) d_Law_isDigit_1 (by decide) <|
    am_icmp_lt (tgt := 16) d_Law_isDigit_3 (by decide) kt kf
theorem b_Law_isDigit_6 {d : Nat} {x0 : Int32} {h : am_H} {Q : am_Q} (kt : 57 < x0 → am_W (X_Law_isDigit d) 16 [some (.int x0)] [] h Q) (kf : ¬ 57 < x0 → am_W (X_Law_isDigit d) 12 [some (.int x0)] [] h Q) : am_W (X_Law_isDigit d) 6 [some (.int x0)] [] h Q :=
  am_iload_n d_Law_isDigit_6 rfl (i := 0) rfl <|
    am_bipush (v := 57) d_Law_isDigit_7 (by decide) <|
    am_icmp_gt (tgt := 16) d_Law_isDigit_9 (by decide) kt kf
theorem b_Law_isDigit_12 {d : Nat} {x0 : Int32} {h : am_H} {Q : am_Q} (q : Q (some (.int 1)) h) : am_W (X_Law_isDigit d) 12 [some (.int x0)] [] h Q :=
  am_iconst (v := 1) d_Law_isDigit_12 (by decide) <|
    am_goto (tgt := 17) d_Law_isDigit_13 (by decide) <|
    am_zret (ty := .boolean) rfl (by decide) d_Law_isDigit_17 q
theorem b_Law_isDigit_16 {d : Nat} {x0 : Int32} {h : am_H} {Q : am_Q} (q : Q (some (.int 0)) h) : am_W (X_Law_isDigit d) 16 [some (.int x0)] [] h Q :=
  am_iconst (v := 0) d_Law_isDigit_16 (by decide) <|
    am_zret (ty := .boolean) rfl (by decide) d_Law_isDigit_17 q
theorem t_Law_isDigit_16 {d : Nat} {x0 : Int32} {h : am_H} {Q : am_Q} {res : Bool} (e : f_Law_isDigit_16 = res) (q : Q (some (.int (am_b res))) h) : am_W (X_Law_isDigit d) 16 [some (.int x0)] [] h Q :=
  b_Law_isDigit_16 (d := d) (q := (am_rZt (v := false) e q))
theorem t_Law_isDigit_12 {d : Nat} {x0 : Int32} {h : am_H} {Q : am_Q} {res : Bool} (e : f_Law_isDigit_12 = res) (q : Q (some (.int (am_b res))) h) : am_W (X_Law_isDigit d) 12 [some (.int x0)] [] h Q :=
  b_Law_isDigit_12 (d := d) (q := (am_rZt (v := true) e q))
theorem t_Law_isDigit_6 {d : Nat} {x0 : Int32} {h : am_H} {Q : am_Q} {res : Bool} (e : f_Law_isDigit_6 x0 = res) (q : Q (some (.int (am_b res))) h) : am_W (X_Law_isDigit d) 6 [some (.int x0)] [] h Q :=
  b_Law_isDigit_6 (d := d) (kt := fun c => (t_Law_isDigit_16 (am_ift e c) q)) (kf := fun c => (t_Law_isDigit_12 (am_ife e c) q))
theorem t_Law_isDigit_0 {d : Nat} {x0 : Int32} {h : am_H} {Q : am_Q} {res : Bool} (e : f_Law_isDigit x0 = res) (q : Q (some (.int (am_b res))) h) : am_W (X_Law_isDigit d) 0 [some (.int x0)] [] h Q :=
  b_Law_isDigit_0 (d := d) (kt := fun c => (t_Law_isDigit_16 (am_ift e c) q)) (kf := fun c => (t_Law_isDigit_6 (am_ife e c) q))
theorem c_Law_isDigit {d : Nat} {x0 : Int32} {h : am_H} {Q : am_Q} {res : Bool} (e : f_Law_isDigit x0 = res) (q : Q (some (.int (am_b res))) h) : m_Law_isDigit d [.int x0] h Q :=
  e_Law_isDigit (t_Law_isDigit_0 e q)
theorem d_Law_write_0 : decode prog_6_method_16_code 0 = .ok (.aload_n 0, 1) := by decide +kernel
theorem d_Law_write_1 : decode prog_6_method_16_code 1 = .ok (.getfield 34, 3) := by decide +kernel
theorem d_Law_write_4 : decode prog_6_method_16_code 4 = .ok (.ifCond .lt 33, 3) := by decide +kernel
theorem d_Law_write_7 : decode prog_6_method_16_code 7 = .ok (.aload_n 0, 1) := by decide +kernel
theorem d_Law_write_8 : decode prog_6_method_16_code 8 = .ok (.getfield 34, 3) := by decide +kernel
theorem d_Law_write_11 : decode prog_6_method_16_code 11 = .ok (.sipush 130, 3) := by decide +kernel
theorem d_Law_write_14 : decode prog_6_method_16_code 14 = .ok (.if_icmp .ge 23, 3) := by decide +kernel
theorem d_Law_write_17 : decode prog_6_method_16_code 17 = .ok (.aload_n 0, 1) := by decide +kernel
theorem d_Law_write_18 : decode prog_6_method_16_code 18 = .ok (.getfield 15, 3) := by decide +kernel
theorem d_Law_write_21 : decode prog_6_method_16_code 21 = .ok (.aload_n 0, 1) := by decide +kernel
theorem d_Law_write_22 : decode prog_6_method_16_code 22 = .ok (.getfield 34, 3) := by decide +kernel
theorem d_Law_write_25 : decode prog_6_method_16_code 25 = .ok (.iload_n 1, 1) := by decide +kernel
theorem d_Law_write_26 : decode prog_6_method_16_code 26 = .ok (.iastore, 1) := by decide +kernel
theorem d_Law_write_27 : decode prog_6_method_16_code 27 = .ok (.aload_n 0, 1) := by decide +kernel
theorem d_Law_write_28 : decode prog_6_method_16_code 28 = .ok (.dup, 1) := by decide +kernel
theorem d_Law_write_29 : decode prog_6_method_16_code 29 = .ok (.getfield 34, 3) := by decide +kernel
theorem d_Law_write_32 : decode prog_6_method_16_code 32 = .ok (.iconst 1, 1) := by decide +kernel
theorem d_Law_write_33 : decode prog_6_method_16_code 33 = .ok (.iadd, 1) := by decide +kernel
theorem d_Law_write_34 : decode prog_6_method_16_code 34 = .ok (.putfield 34, 3) := by decide +kernel
theorem d_Law_write_37 : decode prog_6_method_16_code 37 = .ok (.return_, 1) := by decide +kernel
theorem b_Law_write_0 {d : Nat} {x1 : Int32} {h : am_H} {Q : am_Q} (kt : (h.1 6 7) < 0 → am_W (X_Law_write d) 37 [some (.ref 6), some (.int x1)] [] h Q) (kf : ¬ (h.1 6 7) < 0 → am_W (X_Law_write d) 7 [some (.ref 6), some (.int x1)] [] h Q) : am_W (X_Law_write d) 0 [some (.ref 6), some (.int x1)] [] h Q :=
  am_aload_n d_Law_write_0 rfl (i := 0) rfl <|
    am_getI (ci := 2) (i := 7) rfl rfl rfl (Nat.le_of_ble_eq_true rfl) w_167 d_Law_write_1 <|
    am_if_lt (tgt := 37) d_Law_write_4 (by decide) kt kf
theorem b_Law_write_7 {d : Nat} {x1 : Int32} {h : am_H} {Q : am_Q} (kt : 130 ≤ (h.1 6 7) → am_W (X_Law_write d) 37 [some (.ref 6), some (.int x1)] [] h Q) (kf : ¬ 130 ≤ (h.1 6 7) → am_W (X_Law_write d) 17 [some (.ref 6), some (.int x1)] [] h Q) : am_W (X_Law_write d) 7 [some (.ref 6), some (.int x1)] [] h Q :=
  am_aload_n d_Law_write_7 rfl (i := 0) rfl <|
    am_getI (ci := 2) (i := 7) rfl rfl rfl (Nat.le_of_ble_eq_true rfl) w_167 d_Law_write_8 <|
    am_sipush (v := 130) d_Law_write_11 (by decide) <|
    am_icmp_ge (tgt := 37) d_Law_write_14 (by decide) kt kf
theorem b_Law_write_17 {d : Nat} {x1 : Int32} {h : am_H} {Q : am_Q} (q0 : vp_in (h.1 6 7) 130) (q : Q none (am_pI (am_pI h 8 (h.1 6 7).toNatClampNeg x1) 6 7 (((am_pI h 8 (h.1 6 7).toNatClampNeg x1).1 6 7) + 1))) : am_W (X_Law_write d) 17 [some (.ref 6), some (.int x1)] [] h Q :=
  am_aload_n d_Law_write_17 rfl (i := 0) rfl <|
    am_getR (ci := 2) (i := 1) rfl rfl rfl (Nat.le_of_ble_eq_true rfl) w_161 d_Law_write_18 <|
    am_aload_n d_Law_write_21 rfl (i := 0) rfl <|
    am_getI (ci := 2) (i := 7) rfl rfl rfl (Nat.le_of_ble_eq_true rfl) w_167 d_Law_write_22 <|
    am_iload_n d_Law_write_25 rfl (i := 1) rfl <|
    am_iast rfl q0 d_Law_write_26 <|
    am_aload_n d_Law_write_27 rfl (i := 0) rfl <|
    am_dupR d_Law_write_28 <|
    am_getI (ci := 2) (i := 7) rfl rfl rfl (Nat.le_of_ble_eq_true rfl) w_167 d_Law_write_29 <|
    am_iconst (v := 1) d_Law_write_32 (by decide) <|
    am_iadd d_Law_write_33 <|
    am_putI (ci := 2) (i := 7) rfl rfl rfl (Nat.le_of_ble_eq_true rfl) w_167 rfl rfl rfl d_Law_write_34 <|
    am_vret rfl d_Law_write_37 q
theorem b_Law_write_37 {d : Nat} {x1 : Int32} {h : am_H} {Q : am_Q} (q : Q none h) : am_W (X_Law_write d) 37 [some (.ref 6), some (.int x1)] [] h Q :=
  am_vret rfl d_Law_write_37 q
theorem t_Law_write_37 {d : Nat} {x1 : Int32} {h : am_H} {Q : am_Q} {res : am_H} (e : f_Law_write_37 h = some res) (q : Q none res) : am_W (X_Law_write d) 37 [some (.ref 6), some (.int x1)] [] h Q :=
  b_Law_write_37 (d := d) (q := (am_rVpi e q))
theorem t_Law_write_17 {d : Nat} {x1 : Int32} {h : am_H} {Q : am_Q} {res : am_H} (e : f_Law_write_17 h x1 = some res) (q : Q none res) : am_W (X_Law_write d) 17 [some (.ref 6), some (.int x1)] [] h Q :=
  b_Law_write_17 (d := d) (q0 := (am_okv (am_gd e))) (q := (am_rVpi (am_ga e) q))
theorem t_Law_write_7 {d : Nat} {x1 : Int32} {h : am_H} {Q : am_Q} {res : am_H} (e : f_Law_write_7 h x1 = some res) (q : Q none res) : am_W (X_Law_write d) 7 [some (.ref 6), some (.int x1)] [] h Q :=
  b_Law_write_7 (d := d) (kt := fun c => (t_Law_write_37 (am_ift e c) q)) (kf := fun c => (t_Law_write_17 (am_ife e c) q))
theorem t_Law_write_0 {d : Nat} {x1 : Int32} {h : am_H} {Q : am_Q} {res : am_H} (e : f_Law_write h x1 = some res) (q : Q none res) : am_W (X_Law_write d) 0 [some (.ref 6), some (.int x1)] [] h Q :=
  b_Law_write_0 (d := d) (kt := fun c => (t_Law_write_37 (am_ift e c) q)) (kf := fun c => (t_Law_write_7 (am_ife e c) q))
theorem c_Law_write {d : Nat} {x1 : Int32} {h : am_H} {Q : am_Q} {res : am_H} (e : f_Law_write h x1 = some res) (q : Q none res) : m_Law_write d [.ref 6, .int x1] h Q :=
  e_Law_write (t_Law_write_0 e q)
theorem d_Law_readNumber_0 : decode prog_6_method_14_code 0 = .ok (.iconst 0, 1) := by decide +kernel
theorem d_Law_readNumber_1 : decode prog_6_method_14_code 1 = .ok (.istore_n 1, 1) := by decide +kernel
theorem d_Law_readNumber_2 : decode prog_6_method_14_code 2 = .ok (.iconst 0, 1) := by decide +kernel
theorem d_Law_readNumber_3 : decode prog_6_method_14_code 3 = .ok (.istore_n 2, 1) := by decide +kernel
theorem d_Law_readNumber_4 : decode prog_6_method_14_code 4 = .ok (.iload_n 2, 1) := by decide +kernel
theorem d_Law_readNumber_5 : decode prog_6_method_14_code 5 = .ok (.iconst 4, 1) := by decide +kernel
theorem d_Law_readNumber_6 : decode prog_6_method_14_code 6 = .ok (.if_icmp .ge 42, 3) := by decide +kernel
theorem d_Law_readNumber_9 : decode prog_6_method_14_code 9 = .ok (.aload_n 0, 1) := by decide +kernel
theorem d_Law_readNumber_10 : decode prog_6_method_14_code 10 = .ok (.invokevirtual 53, 3) := by decide +kernel
theorem d_Law_readNumber_13 : decode prog_6_method_14_code 13 = .ok (.invokestatic 73, 3) := by decide +kernel
theorem d_Law_readNumber_16 : decode prog_6_method_14_code 16 = .ok (.ifCond .eq 32, 3) := by decide +kernel
theorem d_Law_readNumber_19 : decode prog_6_method_14_code 19 = .ok (.iload_n 1, 1) := by decide +kernel
theorem d_Law_readNumber_20 : decode prog_6_method_14_code 20 = .ok (.bipush 10, 2) := by decide +kernel
theorem d_Law_readNumber_22 : decode prog_6_method_14_code 22 = .ok (.imul, 1) := by decide +kernel
theorem d_Law_readNumber_23 : decode prog_6_method_14_code 23 = .ok (.aload_n 0, 1) := by decide +kernel
theorem d_Law_readNumber_24 : decode prog_6_method_14_code 24 = .ok (.invokevirtual 53, 3) := by decide +kernel
theorem d_Law_readNumber_27 : decode prog_6_method_14_code 27 = .ok (.bipush 48, 2) := by decide +kernel
theorem d_Law_readNumber_29 : decode prog_6_method_14_code 29 = .ok (.isub, 1) := by decide +kernel
theorem d_Law_readNumber_30 : decode prog_6_method_14_code 30 = .ok (.iadd, 1) := by decide +kernel
theorem d_Law_readNumber_31 : decode prog_6_method_14_code 31 = .ok (.istore_n 1, 1) := by decide +kernel
theorem d_Law_readNumber_32 : decode prog_6_method_14_code 32 = .ok (.aload_n 0, 1) := by decide +kernel
theorem d_Law_readNumber_33 : decode prog_6_method_14_code 33 = .ok (.dup, 1) := by decide +kernel
theorem d_Law_readNumber_34 : decode prog_6_method_14_code 34 = .ok (.getfield 31, 3) := by decide +kernel
theorem d_Law_readNumber_37 : decode prog_6_method_14_code 37 = .ok (.iconst 1, 1) := by decide +kernel
theorem d_Law_readNumber_38 : decode prog_6_method_14_code 38 = .ok (.iadd, 1) := by decide +kernel
theorem d_Law_readNumber_39 : decode prog_6_method_14_code 39 = .ok (.putfield 31, 3) := by decide +kernel
theorem d_Law_readNumber_42 : decode prog_6_method_14_code 42 = .ok (.iinc 2 1, 3) := by decide +kernel
theorem d_Law_readNumber_45 : decode prog_6_method_14_code 45 = .ok (.goto (-41), 3) := by decide +kernel
theorem d_Law_readNumber_48 : decode prog_6_method_14_code 48 = .ok (.aload_n 0, 1) := by decide +kernel
theorem d_Law_readNumber_49 : decode prog_6_method_14_code 49 = .ok (.iload_n 1, 1) := by decide +kernel
theorem d_Law_readNumber_50 : decode prog_6_method_14_code 50 = .ok (.invokevirtual 61, 3) := by decide +kernel
theorem d_Law_readNumber_53 : decode prog_6_method_14_code 53 = .ok (.iconst 1, 1) := by decide +kernel
theorem d_Law_readNumber_54 : decode prog_6_method_14_code 54 = .ok (.ireturn, 1) := by decide +kernel
theorem b_Law_readNumber_0 {d : Nat} {h : am_H} {Q : am_Q} (k : am_W (X_Law_readNumber d) 4 [some (.ref 6), some (.int 0), some (.int 0)] [] h Q) : am_W (X_Law_readNumber d) 0 [some (.ref 6), none, none] [] h Q :=
  am_iconst (v := 0) d_Law_readNumber_0 (by decide) <|
    am_istore_n (ls' := [some (.ref 6), some (.int 0), none]) d_Law_readNumber_1 rfl (Nat.le_of_ble_eq_true rfl) rfl <|
    am_iconst (v := 0) d_Law_readNumber_2 (by decide) <|
    am_istore_n (ls' := [some (.ref 6), some (.int 0), some (.int 0)]) d_Law_readNumber_3 rfl (Nat.le_of_ble_eq_true rfl) rfl <|
    k
theorem b_Law_readNumber_4 {d : Nat} {x1 : Int32} {x2 : Int32} {h : am_H} {Q : am_Q} (kt : 4 ≤ x2 → am_W (X_Law_readNumber d) 48 [some (.ref 6), some (.int x1), some (.int x2)] [] h Q) (kf : ¬ 4 ≤ x2 → am_W (X_Law_readNumber d) 9 [some (.ref 6), some (.int x1), some (.int x2)] [] h Q) : am_W (X_Law_readNumber d) 4 [some (.ref 6), some (.int x1), some (.int x2)] [] h Q :=
  am_iload_n d_Law_readNumber_4 rfl (i := 2) rfl <|
    am_iconst (v := 4) d_Law_readNumber_5 (by decide) <|
    am_icmp_ge (tgt := 48) d_Law_readNumber_6 (by decide) kt kf
theorem b_Law_readNumber_9 {d : Nat} {x1 : Int32} {x2 : Int32} {h : am_H} {Q : am_Q} (k : m_Law_next d [.ref 6] h (fun r hh => am_W (X_Law_readNumber (d + 1)) 13 [some (.ref 6), some (.int x1), some (.int x2)] (r.toList ++ []) hh Q)) : am_W (X_Law_readNumber (d + 1)) 9 [some (.ref 6), some (.int x1), some (.int x2)] [] h Q :=
  am_aload_n d_Law_readNumber_9 rfl (i := 0) rfl <|
    am_callV (vs := []) (st := []) (k := 6) (ci := 2) rfl d_Law_readNumber_10 rfl rfl w_549 w_551 w_8 w_86 w_552 p_Law_next (Nat.le_of_ble_eq_true rfl) (Nat.le_of_ble_eq_true rfl) rfl k
theorem b_Law_readNumber_13 {d : Nat} {x1 : Int32} {x2 : Int32} {y0 : Int32} {h : am_H} {Q : am_Q} (k : m_Law_isDigit d [.int y0] h (fun r hh => am_W (X_Law_readNumber (d + 1)) 16 [some (.ref 6), some (.int x1), some (.int x2)] (r.toList ++ []) hh Q)) : am_W (X_Law_readNumber (d + 1)) 13 [some (.ref 6), some (.int x1), some (.int x2)] [.int y0] h Q :=
  am_callS (vs := [.int y0]) (st := []) rfl d_Law_readNumber_13 w_553 w_554 w_86 w_555 p_Law_isDigit (Nat.le_of_ble_eq_true rfl) (Nat.le_of_ble_eq_true rfl) rfl k
theorem b_Law_readNumber_16 {d : Nat} {x1 : Int32} {x2 : Int32} {y0 : Bool} {h : am_H} {Q : am_Q} (kt : (am_b y0) = 0 → am_W (X_Law_readNumber d) 48 [some (.ref 6), some (.int x1), some (.int x2)] [] h Q) (kf : ¬ (am_b y0) = 0 → am_W (X_Law_readNumber d) 19 [some (.ref 6), some (.int x1), some (.int x2)] [] h Q) : am_W (X_Law_readNumber d) 16 [some (.ref 6), some (.int x1), some (.int x2)] [.int (am_b y0)] h Q :=
  am_if_eq (tgt := 48) d_Law_readNumber_16 (by decide) kt kf
theorem b_Law_readNumber_19 {d : Nat} {x1 : Int32} {x2 : Int32} {h : am_H} {Q : am_Q} (k : m_Law_next d [.ref 6] h (fun r hh => am_W (X_Law_readNumber (d + 1)) 27 [some (.ref 6), some (.int x1), some (.int x2)] (r.toList ++ [.int (x1 * 10)]) hh Q)) : am_W (X_Law_readNumber (d + 1)) 19 [some (.ref 6), some (.int x1), some (.int x2)] [] h Q :=
  am_iload_n d_Law_readNumber_19 rfl (i := 1) rfl <|
    am_bipush (v := 10) d_Law_readNumber_20 (by decide) <|
    am_imul d_Law_readNumber_22 <|
    am_aload_n d_Law_readNumber_23 rfl (i := 0) rfl <|
    am_callV (vs := []) (st := [.int (x1 * 10)]) (k := 6) (ci := 2) rfl d_Law_readNumber_24 rfl rfl w_549 w_551 w_8 w_86 w_552 p_Law_next (Nat.le_of_ble_eq_true rfl) (Nat.le_of_ble_eq_true rfl) rfl k
theorem b_Law_readNumber_27 {d : Nat} {x1 : Int32} {x2 : Int32} {y1 : Int32} {y0 : Int32} {h : am_H} {Q : am_Q} (k : am_W (X_Law_readNumber d) 4 [some (.ref 6), some (.int (y0 + (y1 - 48))), some (.int (x2 + 1))] [] (am_pI h 6 6 ((h.1 6 6) + 1)) Q) : am_W (X_Law_readNumber d) 27 [some (.ref 6), some (.int x1), some (.int x2)] [.int y1, .int y0] h Q :=
  am_bipush (v := 48) d_Law_readNumber_27 (by decide) <|
    am_isub d_Law_readNumber_29 <|
    am_iadd d_Law_readNumber_30 <|
    am_istore_n (ls' := [some (.ref 6), some (.int (y0 + (y1 - 48))), some (.int x2)]) d_Law_readNumber_31 rfl (Nat.le_of_ble_eq_true rfl) rfl <|
    am_aload_n d_Law_readNumber_32 rfl (i := 0) rfl <|
    am_dupR d_Law_readNumber_33 <|
    am_getI (ci := 2) (i := 6) rfl rfl rfl (Nat.le_of_ble_eq_true rfl) w_166 d_Law_readNumber_34 <|
    am_iconst (v := 1) d_Law_readNumber_37 (by decide) <|
    am_iadd d_Law_readNumber_38 <|
    am_putI (ci := 2) (i := 6) rfl rfl rfl (Nat.le_of_ble_eq_true rfl) w_166 rfl rfl rfl d_Law_readNumber_39 <|
    am_iinc (v := (x2 + 1)) (ls' := [some (.ref 6), some (.int (y0 + (y1 - 48))), some (.int (x2 + 1))]) d_Law_readNumber_42 rfl rfl (Nat.le_of_ble_eq_true rfl) rfl <|
    am_goto (tgt := 4) d_Law_readNumber_45 (by decide) k
theorem b_Law_readNumber_48 {d : Nat} {x1 : Int32} {x2 : Int32} {h : am_H} {Q : am_Q} (k : m_Law_write d [.ref 6, .int x1] h (fun r hh => am_W (X_Law_readNumber (d + 1)) 53 [some (.ref 6), some (.int x1), some (.int x2)] (r.toList ++ []) hh Q)) : am_W (X_Law_readNumber (d + 1)) 48 [some (.ref 6), some (.int x1), some (.int x2)] [] h Q :=
  am_aload_n d_Law_readNumber_48 rfl (i := 0) rfl <|
    am_iload_n d_Law_readNumber_49 rfl (i := 1) rfl <|
    am_callV (vs := [.int x1]) (st := []) (k := 6) (ci := 2) rfl d_Law_readNumber_50 rfl rfl w_560 w_562 w_10 w_86 w_563 p_Law_write (Nat.le_of_ble_eq_true rfl) (Nat.le_of_ble_eq_true rfl) rfl k
theorem b_Law_readNumber_53 {d : Nat} {x1 : Int32} {x2 : Int32} {h : am_H} {Q : am_Q} (q : Q (some (.int 1)) h) : am_W (X_Law_readNumber d) 53 [some (.ref 6), some (.int x1), some (.int x2)] [] h Q :=
  am_iconst (v := 1) d_Law_readNumber_53 (by decide) <|
    am_zret (ty := .boolean) rfl (by decide) d_Law_readNumber_54 q
theorem t_Law_readNumber_53 {d : Nat} {x1 : Int32} {x2 : Int32} {h : am_H} {Q : am_Q} {res : Bool × am_H} (e : f_Law_readNumber_53 h = some res) (q : Q (some (.int (am_b res.1))) res.2) : am_W (X_Law_readNumber (d + 1)) 53 [some (.ref 6), some (.int x1), some (.int x2)] [] h Q :=
  b_Law_readNumber_53 (d := (d + 1)) (q := (am_rZpi (v := true) e q))
theorem t_Law_readNumber_48 {d : Nat} {x1 : Int32} {x2 : Int32} {h : am_H} {Q : am_Q} {res : Bool × am_H} (e : f_Law_readNumber_48 h x1 = some res) (q : Q (some (.int (am_b res.1))) res.2) : am_W (X_Law_readNumber (d + 1)) 48 [some (.ref 6), some (.int x1), some (.int x2)] [] h Q :=
  (am_bd e).elim fun p hp => b_Law_readNumber_48 (d := d) (k := c_Law_write (d := d) hp.1 (t_Law_readNumber_53 hp.2 q))
theorem t_Law_readNumber_27 {d : Nat} {k4 : am_H → Int32 → Int32 → Option (Bool × am_H)} {x1 : Int32} {x2 : Int32} {y1 : Int32} {y0 : Int32} {h : am_H} {Q : am_Q} {res : Bool × am_H} (hk4 : ∀ (x1 : Int32) (x2 : Int32) (h : am_H), k4 h x1 x2 = some res → am_W (X_Law_readNumber (d + 1)) 4 [some (.ref 6), some (.int x1), some (.int x2)] [] h Q) (e : f_Law_readNumber_27 k4 h x2 y1 y0 = some res) (q : Q (some (.int (am_b res.1))) res.2) : am_W (X_Law_readNumber (d + 1)) 27 [some (.ref 6), some (.int x1), some (.int x2)] [.int y1, .int y0] h Q :=
  b_Law_readNumber_27 (d := (d + 1)) (k := (hk4 _ _ _ e))
theorem t_Law_readNumber_19 {d : Nat} {k4 : am_H → Int32 → Int32 → Option (Bool × am_H)} {x1 : Int32} {x2 : Int32} {h : am_H} {Q : am_Q} {res : Bool × am_H} (hk4 : ∀ (x1 : Int32) (x2 : Int32) (h : am_H), k4 h x1 x2 = some res → am_W (X_Law_readNumber (d + 1)) 4 [some (.ref 6), some (.int x1), some (.int x2)] [] h Q) (e : f_Law_readNumber_19 k4 h x1 x2 = some res) (q : Q (some (.int (am_b res.1))) res.2) : am_W (X_Law_readNumber (d + 1)) 19 [some (.ref 6), some (.int x1), some (.int x2)] [] h Q :=
  (am_bd e).elim fun p hp => b_Law_readNumber_19 (d := d) (k := c_Law_next (d := d) hp.1 (t_Law_readNumber_27 hk4 hp.2 q))
theorem t_Law_readNumber_16 {d : Nat} {k4 : am_H → Int32 → Int32 → Option (Bool × am_H)} {x1 : Int32} {x2 : Int32} {y0 : Bool} {h : am_H} {Q : am_Q} {res : Bool × am_H} (hk4 : ∀ (x1 : Int32) (x2 : Int32) (h : am_H), k4 h x1 x2 = some res → am_W (X_Law_readNumber (d + 1)) 4 [some (.ref 6), some (.int x1), some (.int x2)] [] h Q) (e : f_Law_readNumber_16 k4 h x1 x2 y0 = some res) (q : Q (some (.int (am_b res.1))) res.2) : am_W (X_Law_readNumber (d + 1)) 16 [some (.ref 6), some (.int x1), some (.int x2)] [.int (am_b y0)] h Q :=
  b_Law_readNumber_16 (d := (d + 1)) (kt := fun c => (t_Law_readNumber_48 (am_iff e (am_bz c)) q)) (kf := fun c => (t_Law_readNumber_19 hk4 (am_ift e (am_bn c)) q))
theorem t_Law_readNumber_13 {d : Nat} {k4 : am_H → Int32 → Int32 → Option (Bool × am_H)} {x1 : Int32} {x2 : Int32} {y0 : Int32} {h : am_H} {Q : am_Q} {res : Bool × am_H} (hk4 : ∀ (x1 : Int32) (x2 : Int32) (h : am_H), k4 h x1 x2 = some res → am_W (X_Law_readNumber (d + 1)) 4 [some (.ref 6), some (.int x1), some (.int x2)] [] h Q) (e : f_Law_readNumber_13 k4 h x1 x2 y0 = some res) (q : Q (some (.int (am_b res.1))) res.2) : am_W (X_Law_readNumber (d + 1)) 13 [some (.ref 6), some (.int x1), some (.int x2)] [.int y0] h Q :=
  b_Law_readNumber_13 (d := d) (k := c_Law_isDigit (d := d) rfl (t_Law_readNumber_16 hk4 e q))
theorem t_Law_readNumber_9 {d : Nat} {k4 : am_H → Int32 → Int32 → Option (Bool × am_H)} {x1 : Int32} {x2 : Int32} {h : am_H} {Q : am_Q} {res : Bool × am_H} (hk4 : ∀ (x1 : Int32) (x2 : Int32) (h : am_H), k4 h x1 x2 = some res → am_W (X_Law_readNumber (d + 1)) 4 [some (.ref 6), some (.int x1), some (.int x2)] [] h Q) (e : f_Law_readNumber_9 k4 h x1 x2 = some res) (q : Q (some (.int (am_b res.1))) res.2) : am_W (X_Law_readNumber (d + 1)) 9 [some (.ref 6), some (.int x1), some (.int x2)] [] h Q :=
  (am_bd e).elim fun p hp => b_Law_readNumber_9 (d := d) (k := c_Law_next (d := d) hp.1 (t_Law_readNumber_13 hk4 hp.2 q))
theorem t_Law_readNumber_4 {d : Nat} {k4 : am_H → Int32 → Int32 → Option (Bool × am_H)} {x1 : Int32} {x2 : Int32} {h : am_H} {Q : am_Q} {res : Bool × am_H} (hk4 : ∀ (x1 : Int32) (x2 : Int32) (h : am_H), k4 h x1 x2 = some res → am_W (X_Law_readNumber (d + 1)) 4 [some (.ref 6), some (.int x1), some (.int x2)] [] h Q) (e : f_Law_readNumber_4 k4 h x1 x2 = some res) (q : Q (some (.int (am_b res.1))) res.2) : am_W (X_Law_readNumber (d + 1)) 4 [some (.ref 6), some (.int x1), some (.int x2)] [] h Q :=
  b_Law_readNumber_4 (d := (d + 1)) (kt := fun c => (t_Law_readNumber_48 (am_ift e c) q)) (kf := fun c => (t_Law_readNumber_9 hk4 (am_ife e c) q))
theorem t_Law_readNumber_4_l {d : Nat} {Q : am_Q} {res : Bool × am_H} (q : Q (some (.int (am_b res.1))) res.2) : ∀ (n : Nat) (x1 : Int32) (x2 : Int32) (h : am_H), f_Law_readNumber_4_l n h x1 x2 = some res → am_W (X_Law_readNumber (d + 1)) 4 [some (.ref 6), some (.int x1), some (.int x2)] [] h Q := by
  intro n
  induction n with
  | zero => intro x1 x2 h e; exact am_nn e
  | succ n ih => intro x1 x2 h e; exact t_Law_readNumber_4 (fun x1 x2 h e => ih x1 x2 h  e) e q
theorem t_Law_readNumber_0 {d : Nat} {h : am_H} {Q : am_Q} {res : Bool × am_H} (e : f_Law_readNumber h = some res) (q : Q (some (.int (am_b res.1))) res.2) : am_W (X_Law_readNumber (d + 1)) 0 [some (.ref 6), none, none] [] h Q :=
  b_Law_readNumber_0 (d := (d + 1)) (k := (t_Law_readNumber_4_l q am_fu _ _ _ e))
theorem c_Law_readNumber {d : Nat} {h : am_H} {Q : am_Q} {res : Bool × am_H} (e : f_Law_readNumber h = some res) (q : Q (some (.int (am_b res.1))) res.2) : m_Law_readNumber (d + 1) [.ref 6] h Q :=
  e_Law_readNumber (t_Law_readNumber_0 e q)
theorem d_Str_isLatin1_0 : decode prog_15_method_154_code 0 = .ok (.getstatic 38, 3) := by decide +kernel
theorem d_Str_isLatin1_3 : decode prog_15_method_154_code 3 = .ok (.ifCond .eq 14, 3) := by decide +kernel
theorem d_Str_isLatin1_6 : decode prog_15_method_154_code 6 = .ok (.aload_n 0, 1) := by decide +kernel
theorem d_Str_isLatin1_7 : decode prog_15_method_154_code 7 = .ok (.getfield 15, 3) := by decide +kernel
theorem d_Str_isLatin1_10 : decode prog_15_method_154_code 10 = .ok (.ifCond .ne 7, 3) := by decide +kernel
theorem d_Str_isLatin1_13 : decode prog_15_method_154_code 13 = .ok (.iconst 1, 1) := by decide +kernel
theorem d_Str_isLatin1_14 : decode prog_15_method_154_code 14 = .ok (.goto 4, 3) := by decide +kernel
theorem d_Str_isLatin1_17 : decode prog_15_method_154_code 17 = .ok (.iconst 0, 1) := by decide +kernel
theorem d_Str_isLatin1_18 : decode prog_15_method_154_code 18 = .ok (.ireturn, 1) := by decide +kernel
theorem b_Str_isLatin1_0 {d : Nat} {h : am_H} {Q : am_Q} (kt : (1 : Int32) = 0 → am_W (X_Str_isLatin1 d) 17 [some (.ref 106)] [] h Q) (kf : ¬ (1 : Int32) = 0 → am_W (X_Str_isLatin1 d) 6 [some (.ref 106)] [] h Q) : am_W (X_Str_isLatin1 d) 0 [some (.ref 106)] [] h Q :=
  am_getsC w_577 d_Str_isLatin1_0 <|
    am_if_eq (tgt := 17) d_Str_isLatin1_3 (by decide) kt kf
theorem b_Str_isLatin1_6 {d : Nat} {h : am_H} {Q : am_Q} (kt : ¬ (0 : Int32) = 0 → am_W (X_Str_isLatin1 d) 17 [some (.ref 106)] [] h Q) (kf : (0 : Int32) = 0 → am_W (X_Str_isLatin1 d) 13 [some (.ref 106)] [] h Q) : am_W (X_Str_isLatin1 d) 6 [some (.ref 106)] [] h Q :=
  am_aload_n d_Str_isLatin1_6 rfl (i := 0) rfl <|
    am_getSc w_1817 d_Str_isLatin1_7 <|
    am_if_ne (tgt := 17) d_Str_isLatin1_10 (by decide) kt kf
theorem b_Str_isLatin1_13 {d : Nat} {h : am_H} {Q : am_Q} (q : Q (some (.int 1)) h) : am_W (X_Str_isLatin1 d) 13 [some (.ref 106)] [] h Q :=
  am_iconst (v := 1) d_Str_isLatin1_13 (by decide) <|
    am_goto (tgt := 18) d_Str_isLatin1_14 (by decide) <|
    am_zret (ty := .boolean) rfl (by decide) d_Str_isLatin1_18 q
theorem b_Str_isLatin1_17 {d : Nat} {h : am_H} {Q : am_Q} (q : Q (some (.int 0)) h) : am_W (X_Str_isLatin1 d) 17 [some (.ref 106)] [] h Q :=
  am_iconst (v := 0) d_Str_isLatin1_17 (by decide) <|
    am_zret (ty := .boolean) rfl (by decide) d_Str_isLatin1_18 q
theorem t_Str_isLatin1_17 {d : Nat} {h : am_H} {Q : am_Q} {res : Bool} (e : f_Str_isLatin1_17 = res) (q : Q (some (.int (am_b res))) h) : am_W (X_Str_isLatin1 d) 17 [some (.ref 106)] [] h Q :=
  b_Str_isLatin1_17 (d := d) (q := (am_rZt (v := false) e q))
theorem t_Str_isLatin1_13 {d : Nat} {h : am_H} {Q : am_Q} {res : Bool} (e : f_Str_isLatin1_13 = res) (q : Q (some (.int (am_b res))) h) : am_W (X_Str_isLatin1 d) 13 [some (.ref 106)] [] h Q :=
  b_Str_isLatin1_13 (d := d) (q := (am_rZt (v := true) e q))
theorem t_Str_isLatin1_6 {d : Nat} {h : am_H} {Q : am_Q} {res : Bool} (e : f_Str_isLatin1_6 = res) (q : Q (some (.int (am_b res))) h) : am_W (X_Str_isLatin1 d) 6 [some (.ref 106)] [] h Q :=
  b_Str_isLatin1_6 (d := d) (kt := fun c => (t_Str_isLatin1_17 (am_ife e c) q)) (kf := fun c => (t_Str_isLatin1_13 (am_ift e c) q))
theorem t_Str_isLatin1_0 {d : Nat} {h : am_H} {Q : am_Q} {res : Bool} (e : f_Str_isLatin1 = res) (q : Q (some (.int (am_b res))) h) : am_W (X_Str_isLatin1 d) 0 [some (.ref 106)] [] h Q :=
  b_Str_isLatin1_0 (d := d) (kt := fun c => (t_Str_isLatin1_17 (am_ift e c) q)) (kf := fun c => (t_Str_isLatin1_6 (am_ife e c) q))
theorem c_Str_isLatin1 {d : Nat} {h : am_H} {Q : am_Q} {res : Bool} (e : f_Str_isLatin1 = res) (q : Q (some (.int (am_b res))) h) : m_Str_isLatin1 d [.ref 106] h Q :=
  e_Str_isLatin1 (t_Str_isLatin1_0 e q)
theorem d_Str_coder_0 : decode prog_15_method_152_code 0 = .ok (.getstatic 38, 3) := by decide +kernel
theorem d_Str_coder_3 : decode prog_15_method_152_code 3 = .ok (.ifCond .eq 10, 3) := by decide +kernel
theorem d_Str_coder_6 : decode prog_15_method_152_code 6 = .ok (.aload_n 0, 1) := by decide +kernel
theorem d_Str_coder_7 : decode prog_15_method_152_code 7 = .ok (.getfield 15, 3) := by decide +kernel
theorem d_Str_coder_10 : decode prog_15_method_152_code 10 = .ok (.goto 4, 3) := by decide +kernel
theorem d_Str_coder_13 : decode prog_15_method_152_code 13 = .ok (.iconst 1, 1) := by decide +kernel
theorem d_Str_coder_14 : decode prog_15_method_152_code 14 = .ok (.ireturn, 1) := by decide +kernel
theorem b_Str_coder_0 {d : Nat} {h : am_H} {Q : am_Q} (kt : (1 : Int32) = 0 → am_W (X_Str_coder d) 13 [some (.ref 106)] [] h Q) (kf : ¬ (1 : Int32) = 0 → am_W (X_Str_coder d) 6 [some (.ref 106)] [] h Q) : am_W (X_Str_coder d) 0 [some (.ref 106)] [] h Q :=
  am_getsC w_577 d_Str_coder_0 <|
    am_if_eq (tgt := 13) d_Str_coder_3 (by decide) kt kf
theorem b_Str_coder_6 {d : Nat} {h : am_H} {Q : am_Q} (q : Q (some (.int 0)) h) : am_W (X_Str_coder d) 6 [some (.ref 106)] [] h Q :=
  am_aload_n d_Str_coder_6 rfl (i := 0) rfl <|
    am_getSc w_1817 d_Str_coder_7 <|
    am_goto (tgt := 14) d_Str_coder_10 (by decide) <|
    am_zret (ty := .byte) rfl (by decide) d_Str_coder_14 q
theorem b_Str_coder_13 {d : Nat} {h : am_H} {Q : am_Q} (q : Q (some (.int 1)) h) : am_W (X_Str_coder d) 13 [some (.ref 106)] [] h Q :=
  am_iconst (v := 1) d_Str_coder_13 (by decide) <|
    am_zret (ty := .byte) rfl (by decide) d_Str_coder_14 q
theorem t_Str_coder_13 {d : Nat} {h : am_H} {Q : am_Q} {res : Int32} (e : f_Str_coder_13 = res) (q : Q (some (.int res)) h) : am_W (X_Str_coder d) 13 [some (.ref 106)] [] h Q :=
  b_Str_coder_13 (d := d) (q := (am_rIt (v := 1) e q))
theorem t_Str_coder_6 {d : Nat} {h : am_H} {Q : am_Q} {res : Int32} (e : f_Str_coder_6 = res) (q : Q (some (.int res)) h) : am_W (X_Str_coder d) 6 [some (.ref 106)] [] h Q :=
  b_Str_coder_6 (d := d) (q := (am_rIt (v := 0) e q))
theorem t_Str_coder_0 {d : Nat} {h : am_H} {Q : am_Q} {res : Int32} (e : f_Str_coder = res) (q : Q (some (.int res)) h) : am_W (X_Str_coder d) 0 [some (.ref 106)] [] h Q :=
  b_Str_coder_0 (d := d) (kt := fun c => (t_Str_coder_13 (am_ift e c) q)) (kf := fun c => (t_Str_coder_6 (am_ife e c) q))
theorem c_Str_coder {d : Nat} {h : am_H} {Q : am_Q} {res : Int32} (e : f_Str_coder = res) (q : Q (some (.int res)) h) : m_Str_coder d [.ref 106] h Q :=
  e_Str_coder (t_Str_coder_0 e q)
theorem d_Str_length_0 : decode prog_15_method_54_code 0 = .ok (.aload_n 0, 1) := by decide +kernel
theorem d_Str_length_1 : decode prog_15_method_54_code 1 = .ok (.getfield 9, 3) := by decide +kernel
theorem d_Str_length_4 : decode prog_15_method_54_code 4 = .ok (.arraylength, 1) := by decide +kernel
theorem d_Str_length_5 : decode prog_15_method_54_code 5 = .ok (.aload_n 0, 1) := by decide +kernel
theorem d_Str_length_6 : decode prog_15_method_54_code 6 = .ok (.invokevirtual 335, 3) := by decide +kernel
theorem d_Str_length_9 : decode prog_15_method_54_code 9 = .ok (.ishr, 1) := by decide +kernel
theorem d_Str_length_10 : decode prog_15_method_54_code 10 = .ok (.ireturn, 1) := by decide +kernel
theorem b_Str_length_0 {d : Nat} {h : am_H} {Q : am_Q} (k : m_Str_coder d [.ref 106] h (fun r hh => am_W (X_Str_length (d + 1)) 9 [some (.ref 106)] (r.toList ++ [.int 6]) hh Q)) : am_W (X_Str_length (d + 1)) 0 [some (.ref 106)] [] h Q :=
  am_aload_n d_Str_length_0 rfl (i := 0) rfl <|
    am_getSv w_1818 d_Str_length_1 <|
    am_lenS d_Str_length_4 <|
    am_aload_n d_Str_length_5 rfl (i := 0) rfl <|
    am_callVS (vs := []) (st := [.int 6]) rfl d_Str_length_6 rfl w_583 w_584 w_585 w_97 w_586 p_Str_coder (Nat.le_of_ble_eq_true rfl) (Nat.le_of_ble_eq_true rfl) rfl k
theorem b_Str_length_9 {d : Nat} {y1 : Int32} {y0 : Int32} {h : am_H} {Q : am_Q} (q : Q (some (.int (y0 >>> (y1 &&& 31)))) h) : am_W (X_Str_length d) 9 [some (.ref 106)] [.int y1, .int y0] h Q :=
  am_ishr d_Str_length_9 <|
    am_iret rfl d_Str_length_10 q
theorem t_Str_length_9 {d : Nat} {y1 : Int32} {y0 : Int32} {h : am_H} {Q : am_Q} {res : Int32} (e : f_Str_length_9 y1 y0 = res) (q : Q (some (.int res)) h) : am_W (X_Str_length (d + 1)) 9 [some (.ref 106)] [.int y1, .int y0] h Q :=
  b_Str_length_9 (d := (d + 1)) (q := (am_rIt (v := (y0 >>> (y1 &&& 31))) e q))
theorem t_Str_length_0 {d : Nat} {h : am_H} {Q : am_Q} {res : Int32} (e : f_Str_length = res) (q : Q (some (.int res)) h) : am_W (X_Str_length (d + 1)) 0 [some (.ref 106)] [] h Q :=
  b_Str_length_0 (d := d) (k := c_Str_coder (d := d) rfl (t_Str_length_9 e q))
theorem c_Str_length {d : Nat} {h : am_H} {Q : am_Q} {res : Int32} (e : f_Str_length = res) (q : Q (some (.int res)) h) : m_Str_length (d + 1) [.ref 106] h Q :=
  e_Str_length (t_Str_length_0 e q)
theorem d_Lat_canEncode_0 : decode prog_16_method_4_code 0 = .ok (.iload_n 0, 1) := by decide +kernel
theorem d_Lat_canEncode_1 : decode prog_16_method_4_code 1 = .ok (.ifCond .lt 14, 3) := by decide +kernel
theorem d_Lat_canEncode_4 : decode prog_16_method_4_code 4 = .ok (.iload_n 0, 1) := by decide +kernel
theorem d_Lat_canEncode_5 : decode prog_16_method_4_code 5 = .ok (.sipush 255, 3) := by decide +kernel
theorem d_Lat_canEncode_8 : decode prog_16_method_4_code 8 = .ok (.if_icmp .gt 7, 3) := by decide +kernel
theorem d_Lat_canEncode_11 : decode prog_16_method_4_code 11 = .ok (.iconst 1, 1) := by decide +kernel
theorem d_Lat_canEncode_12 : decode prog_16_method_4_code 12 = .ok (.goto 4, 3) := by decide +kernel
theorem d_Lat_canEncode_15 : decode prog_16_method_4_code 15 = .ok (.iconst 0, 1) := by decide +kernel
theorem d_Lat_canEncode_16 : decode prog_16_method_4_code 16 = .ok (.ireturn, 1) := by decide +kernel
theorem b_Lat_canEncode_0 {d : Nat} {x0 : Int32} {h : am_H} {Q : am_Q} (kt : x0 < 0 → am_W (X_Lat_canEncode d) 15 [some (.int x0)] [] h Q) (kf : ¬ x0 < 0 → am_W (X_Lat_canEncode d) 4 [some (.int x0)] [] h Q) : am_W (X_Lat_canEncode d) 0 [some (.int x0)] [] h Q :=
  am_iload_n d_Lat_canEncode_0 rfl (i := 0) rfl <|
    am_if_lt (tgt := 15) d_Lat_canEncode_1 (by decide) kt kf
theorem b_Lat_canEncode_4 {d : Nat} {x0 : Int32} {h : am_H} {Q : am_Q} (kt : 255 < x0 → am_W (X_Lat_canEncode d) 15 [some (.int x0)] [] h Q) (kf : ¬ 255 < x0 → am_W (X_Lat_canEncode d) 11 [some (.int x0)] [] h Q) : am_W (X_Lat_canEncode d) 4 [some (.int x0)] [] h Q :=
  am_iload_n d_Lat_canEncode_4 rfl (i := 0) rfl <|
    am_sipush (v := 255) d_Lat_canEncode_5 (by decide) <|
    am_icmp_gt (tgt := 15) d_Lat_canEncode_8 (by decide) kt kf
theorem b_Lat_canEncode_11 {d : Nat} {x0 : Int32} {h : am_H} {Q : am_Q} (q : Q (some (.int 1)) h) : am_W (X_Lat_canEncode d) 11 [some (.int x0)] [] h Q :=
  am_iconst (v := 1) d_Lat_canEncode_11 (by decide) <|
    am_goto (tgt := 16) d_Lat_canEncode_12 (by decide) <|
    am_zret (ty := .boolean) rfl (by decide) d_Lat_canEncode_16 q
theorem b_Lat_canEncode_15 {d : Nat} {x0 : Int32} {h : am_H} {Q : am_Q} (q : Q (some (.int 0)) h) : am_W (X_Lat_canEncode d) 15 [some (.int x0)] [] h Q :=
  am_iconst (v := 0) d_Lat_canEncode_15 (by decide) <|
    am_zret (ty := .boolean) rfl (by decide) d_Lat_canEncode_16 q
theorem t_Lat_canEncode_15 {d : Nat} {x0 : Int32} {h : am_H} {Q : am_Q} {res : Bool} (e : f_Lat_canEncode_15 = res) (q : Q (some (.int (am_b res))) h) : am_W (X_Lat_canEncode d) 15 [some (.int x0)] [] h Q :=
  b_Lat_canEncode_15 (d := d) (q := (am_rZt (v := false) e q))
theorem t_Lat_canEncode_11 {d : Nat} {x0 : Int32} {h : am_H} {Q : am_Q} {res : Bool} (e : f_Lat_canEncode_11 = res) (q : Q (some (.int (am_b res))) h) : am_W (X_Lat_canEncode d) 11 [some (.int x0)] [] h Q :=
  b_Lat_canEncode_11 (d := d) (q := (am_rZt (v := true) e q))
theorem t_Lat_canEncode_4 {d : Nat} {x0 : Int32} {h : am_H} {Q : am_Q} {res : Bool} (e : f_Lat_canEncode_4 x0 = res) (q : Q (some (.int (am_b res))) h) : am_W (X_Lat_canEncode d) 4 [some (.int x0)] [] h Q :=
  b_Lat_canEncode_4 (d := d) (kt := fun c => (t_Lat_canEncode_15 (am_ift e c) q)) (kf := fun c => (t_Lat_canEncode_11 (am_ife e c) q))
theorem t_Lat_canEncode_0 {d : Nat} {x0 : Int32} {h : am_H} {Q : am_Q} {res : Bool} (e : f_Lat_canEncode x0 = res) (q : Q (some (.int (am_b res))) h) : am_W (X_Lat_canEncode d) 0 [some (.int x0)] [] h Q :=
  b_Lat_canEncode_0 (d := d) (kt := fun c => (t_Lat_canEncode_15 (am_ift e c) q)) (kf := fun c => (t_Lat_canEncode_4 (am_ife e c) q))
theorem c_Lat_canEncode {d : Nat} {x0 : Int32} {h : am_H} {Q : am_Q} {res : Bool} (e : f_Lat_canEncode x0 = res) (q : Q (some (.int (am_b res))) h) : m_Lat_canEncode d [.int x0] h Q :=
  e_Lat_canEncode (t_Lat_canEncode_0 e q)
theorem d_Lat_indexOfChar_0 : decode prog_16_method_23_code 0 = .ok (.iload_n 1, 1) := by decide +kernel
theorem d_Lat_indexOfChar_1 : decode prog_16_method_23_code 1 = .ok (.i2b, 1) := by decide +kernel
theorem d_Lat_indexOfChar_2 : decode prog_16_method_23_code 2 = .ok (.istore 4, 2) := by decide +kernel
theorem d_Lat_indexOfChar_4 : decode prog_16_method_23_code 4 = .ok (.iload_n 2, 1) := by decide +kernel
theorem d_Lat_indexOfChar_5 : decode prog_16_method_23_code 5 = .ok (.istore 5, 2) := by decide +kernel
theorem d_Lat_indexOfChar_7 : decode prog_16_method_23_code 7 = .ok (.iload 5, 2) := by decide +kernel
theorem d_Lat_indexOfChar_9 : decode prog_16_method_23_code 9 = .ok (.iload_n 3, 1) := by decide +kernel
theorem d_Lat_indexOfChar_10 : decode prog_16_method_23_code 10 = .ok (.if_icmp .ge 21, 3) := by decide +kernel
theorem d_Lat_indexOfChar_13 : decode prog_16_method_23_code 13 = .ok (.aload_n 0, 1) := by decide +kernel
theorem d_Lat_indexOfChar_14 : decode prog_16_method_23_code 14 = .ok (.iload 5, 2) := by decide +kernel
theorem d_Lat_indexOfChar_16 : decode prog_16_method_23_code 16 = .ok (.baload, 1) := by decide +kernel
theorem d_Lat_indexOfChar_17 : decode prog_16_method_23_code 17 = .ok (.iload 4, 2) := by decide +kernel
theorem d_Lat_indexOfChar_19 : decode prog_16_method_23_code 19 = .ok (.if_icmp .ne 6, 3) := by decide +kernel
theorem d_Lat_indexOfChar_22 : decode prog_16_method_23_code 22 = .ok (.iload 5, 2) := by decide +kernel
theorem d_Lat_indexOfChar_24 : decode prog_16_method_23_code 24 = .ok (.ireturn, 1) := by decide +kernel
theorem d_Lat_indexOfChar_25 : decode prog_16_method_23_code 25 = .ok (.iinc 5 1, 3) := by decide +kernel
theorem d_Lat_indexOfChar_28 : decode prog_16_method_23_code 28 = .ok (.goto (-21), 3) := by decide +kernel
theorem d_Lat_indexOfChar_31 : decode prog_16_method_23_code 31 = .ok (.iconst (-1), 1) := by decide +kernel
theorem d_Lat_indexOfChar_32 : decode prog_16_method_23_code 32 = .ok (.ireturn, 1) := by decide +kernel
theorem b_Lat_indexOfChar_0 {d : Nat} {x1 : Int32} {x2 : Int32} {x3 : Int32} {h : am_H} {Q : am_Q} (k : am_W (X_Lat_indexOfChar d) 7 [some (.ref 107), some (.int x1), some (.int x2), some (.int x3), some (.int x1.toInt8.toInt32), some (.int x2)] [] h Q) : am_W (X_Lat_indexOfChar d) 0 [some (.ref 107), some (.int x1), some (.int x2), some (.int x3), none, none] [] h Q :=
  am_iload_n d_Lat_indexOfChar_0 rfl (i := 1) rfl <|
    am_i2b d_Lat_indexOfChar_1 <|
    am_istore (ls' := [some (.ref 107), some (.int x1), some (.int x2), some (.int x3), some (.int x1.toInt8.toInt32), none]) d_Lat_indexOfChar_2 (Nat.le_of_ble_eq_true rfl) rfl <|
    am_iload_n d_Lat_indexOfChar_4 rfl (i := 2) rfl <|
    am_istore (ls' := [some (.ref 107), some (.int x1), some (.int x2), some (.int x3), some (.int x1.toInt8.toInt32), some (.int x2)]) d_Lat_indexOfChar_5 (Nat.le_of_ble_eq_true rfl) rfl <|
    k
theorem b_Lat_indexOfChar_7 {d : Nat} {x1 : Int32} {x2 : Int32} {x3 : Int32} {x4 : Int32} {x5 : Int32} {h : am_H} {Q : am_Q} (kt : x3 ≤ x5 → am_W (X_Lat_indexOfChar d) 31 [some (.ref 107), some (.int x1), some (.int x2), some (.int x3), some (.int x4), some (.int x5)] [] h Q) (kf : ¬ x3 ≤ x5 → am_W (X_Lat_indexOfChar d) 13 [some (.ref 107), some (.int x1), some (.int x2), some (.int x3), some (.int x4), some (.int x5)] [] h Q) : am_W (X_Lat_indexOfChar d) 7 [some (.ref 107), some (.int x1), some (.int x2), some (.int x3), some (.int x4), some (.int x5)] [] h Q :=
  am_iload d_Lat_indexOfChar_7 rfl <|
    am_iload_n d_Lat_indexOfChar_9 rfl (i := 3) rfl <|
    am_icmp_ge (tgt := 31) d_Lat_indexOfChar_10 (by decide) kt kf
theorem b_Lat_indexOfChar_13 {d : Nat} {x1 : Int32} {x2 : Int32} {x3 : Int32} {x4 : Int32} {x5 : Int32} {h : am_H} {Q : am_Q} (q0 : vp_in x5 6) (kt : ¬ (([100, 103, 99, 115, 119, 107] : List Int32).getD x5.toNatClampNeg 0) = x4 → am_W (X_Lat_indexOfChar d) 25 [some (.ref 107), some (.int x1), some (.int x2), some (.int x3), some (.int x4), some (.int x5)] [] h Q) (kf : (([100, 103, 99, 115, 119, 107] : List Int32).getD x5.toNatClampNeg 0) = x4 → am_W (X_Lat_indexOfChar d) 22 [some (.ref 107), some (.int x1), some (.int x2), some (.int x3), some (.int x4), some (.int x5)] [] h Q) : am_W (X_Lat_indexOfChar d) 13 [some (.ref 107), some (.int x1), some (.int x2), some (.int x3), some (.int x4), some (.int x5)] [] h Q :=
  am_aload_n d_Lat_indexOfChar_13 rfl (i := 0) rfl <|
    am_iload d_Lat_indexOfChar_14 rfl <|
    am_byS q0 rfl d_Lat_indexOfChar_16 <|
    am_iload d_Lat_indexOfChar_17 rfl <|
    am_icmp_ne (tgt := 25) d_Lat_indexOfChar_19 (by decide) kt kf
theorem b_Lat_indexOfChar_22 {d : Nat} {x1 : Int32} {x2 : Int32} {x3 : Int32} {x4 : Int32} {x5 : Int32} {h : am_H} {Q : am_Q} (q : Q (some (.int x5)) h) : am_W (X_Lat_indexOfChar d) 22 [some (.ref 107), some (.int x1), some (.int x2), some (.int x3), some (.int x4), some (.int x5)] [] h Q :=
  am_iload d_Lat_indexOfChar_22 rfl <|
    am_iret rfl d_Lat_indexOfChar_24 q
theorem b_Lat_indexOfChar_25 {d : Nat} {x1 : Int32} {x2 : Int32} {x3 : Int32} {x4 : Int32} {x5 : Int32} {h : am_H} {Q : am_Q} (k : am_W (X_Lat_indexOfChar d) 7 [some (.ref 107), some (.int x1), some (.int x2), some (.int x3), some (.int x4), some (.int (x5 + 1))] [] h Q) : am_W (X_Lat_indexOfChar d) 25 [some (.ref 107), some (.int x1), some (.int x2), some (.int x3), some (.int x4), some (.int x5)] [] h Q :=
  am_iinc (v := (x5 + 1)) (ls' := [some (.ref 107), some (.int x1), some (.int x2), some (.int x3), some (.int x4), some (.int (x5 + 1))]) d_Lat_indexOfChar_25 rfl rfl (Nat.le_of_ble_eq_true rfl) rfl <|
    am_goto (tgt := 7) d_Lat_indexOfChar_28 (by decide) k
theorem b_Lat_indexOfChar_31 {d : Nat} {x1 : Int32} {x2 : Int32} {x3 : Int32} {x4 : Int32} {x5 : Int32} {h : am_H} {Q : am_Q} (q : Q (some (.int (-1))) h) : am_W (X_Lat_indexOfChar d) 31 [some (.ref 107), some (.int x1), some (.int x2), some (.int x3), some (.int x4), some (.int x5)] [] h Q :=
  am_iconst (v := (-1)) d_Lat_indexOfChar_31 (by decide) <|
    am_iret rfl d_Lat_indexOfChar_32 q
theorem t_Lat_indexOfChar_31 {d : Nat} {x1 : Int32} {x2 : Int32} {x3 : Int32} {x4 : Int32} {x5 : Int32} {h : am_H} {Q : am_Q} {res : Int32} (e : f_Lat_indexOfChar_31 = some res) (q : Q (some (.int res)) h) : am_W (X_Lat_indexOfChar d) 31 [some (.ref 107), some (.int x1), some (.int x2), some (.int x3), some (.int x4), some (.int x5)] [] h Q :=
  b_Lat_indexOfChar_31 (d := d) (q := (am_rIp (v := (-1)) e q))
theorem t_Lat_indexOfChar_25 {d : Nat} {k7 : Int32 → Int32 → Int32 → Option (Int32)} {x1 : Int32} {x2 : Int32} {x3 : Int32} {x4 : Int32} {x5 : Int32} {h : am_H} {Q : am_Q} {res : Int32} (hk7 : ∀ (x1 : Int32) (x2 : Int32) (x3 : Int32) (x4 : Int32) (x5 : Int32), k7 x3 x4 x5 = some res → am_W (X_Lat_indexOfChar d) 7 [some (.ref 107), some (.int x1), some (.int x2), some (.int x3), some (.int x4), some (.int x5)] [] h Q) (e : f_Lat_indexOfChar_25 k7 x3 x4 x5 = some res) (q : Q (some (.int res)) h) : am_W (X_Lat_indexOfChar d) 25 [some (.ref 107), some (.int x1), some (.int x2), some (.int x3), some (.int x4), some (.int x5)] [] h Q :=
  b_Lat_indexOfChar_25 (d := d) (k := (hk7 _ _ _ _ _ e))
theorem t_Lat_indexOfChar_22 {d : Nat} {x1 : Int32} {x2 : Int32} {x3 : Int32} {x4 : Int32} {x5 : Int32} {h : am_H} {Q : am_Q} {res : Int32} (e : f_Lat_indexOfChar_22 x5 = some res) (q : Q (some (.int res)) h) : am_W (X_Lat_indexOfChar d) 22 [some (.ref 107), some (.int x1), some (.int x2), some (.int x3), some (.int x4), some (.int x5)] [] h Q :=
  b_Lat_indexOfChar_22 (d := d) (q := (am_rIp (v := x5) e q))
theorem t_Lat_indexOfChar_13 {d : Nat} {k7 : Int32 → Int32 → Int32 → Option (Int32)} {x1 : Int32} {x2 : Int32} {x3 : Int32} {x4 : Int32} {x5 : Int32} {h : am_H} {Q : am_Q} {res : Int32} (hk7 : ∀ (x1 : Int32) (x2 : Int32) (x3 : Int32) (x4 : Int32) (x5 : Int32), k7 x3 x4 x5 = some res → am_W (X_Lat_indexOfChar d) 7 [some (.ref 107), some (.int x1), some (.int x2), some (.int x3), some (.int x4), some (.int x5)] [] h Q) (e : f_Lat_indexOfChar_13 k7 x3 x4 x5 = some res) (q : Q (some (.int res)) h) : am_W (X_Lat_indexOfChar d) 13 [some (.ref 107), some (.int x1), some (.int x2), some (.int x3), some (.int x4), some (.int x5)] [] h Q :=
  b_Lat_indexOfChar_13 (d := d) (q0 := (am_okv (am_gd e))) (kt := fun c => (t_Lat_indexOfChar_25 hk7 (am_ife (am_ga e) c) q)) (kf := fun c => (t_Lat_indexOfChar_22 (am_ift (am_ga e) c) q))
theorem t_Lat_indexOfChar_7 {d : Nat} {k7 : Int32 → Int32 → Int32 → Option (Int32)} {x1 : Int32} {x2 : Int32} {x3 : Int32} {x4 : Int32} {x5 : Int32} {h : am_H} {Q : am_Q} {res : Int32} (hk7 : ∀ (x1 : Int32) (x2 : Int32) (x3 : Int32) (x4 : Int32) (x5 : Int32), k7 x3 x4 x5 = some res → am_W (X_Lat_indexOfChar d) 7 [some (.ref 107), some (.int x1), some (.int x2), some (.int x3), some (.int x4), some (.int x5)] [] h Q) (e : f_Lat_indexOfChar_7 k7 x3 x4 x5 = some res) (q : Q (some (.int res)) h) : am_W (X_Lat_indexOfChar d) 7 [some (.ref 107), some (.int x1), some (.int x2), some (.int x3), some (.int x4), some (.int x5)] [] h Q :=
  b_Lat_indexOfChar_7 (d := d) (kt := fun c => (t_Lat_indexOfChar_31 (am_ift e c) q)) (kf := fun c => (t_Lat_indexOfChar_13 hk7 (am_ife e c) q))
theorem t_Lat_indexOfChar_7_l {d : Nat} {h : am_H} {Q : am_Q} {res : Int32} (q : Q (some (.int res)) h) : ∀ (n : Nat) (x1 : Int32) (x2 : Int32) (x3 : Int32) (x4 : Int32) (x5 : Int32), f_Lat_indexOfChar_7_l n x3 x4 x5 = some res → am_W (X_Lat_indexOfChar d) 7 [some (.ref 107), some (.int x1), some (.int x2), some (.int x3), some (.int x4), some (.int x5)] [] h Q := by
  intro n
  induction n with
  | zero => intro x1 x2 x3 x4 x5 e; exact am_nn e
  | succ n ih => intro x1 x2 x3 x4 x5 e; exact t_Lat_indexOfChar_7 (fun x1 x2 x3 x4 x5 e => ih x1 x2 x3 x4 x5  e) e q
theorem t_Lat_indexOfChar_0 {d : Nat} {x1 : Int32} {x2 : Int32} {x3 : Int32} {h : am_H} {Q : am_Q} {res : Int32} (e : f_Lat_indexOfChar x1 x2 x3 = some res) (q : Q (some (.int res)) h) : am_W (X_Lat_indexOfChar d) 0 [some (.ref 107), some (.int x1), some (.int x2), some (.int x3), none, none] [] h Q :=
  b_Lat_indexOfChar_0 (d := d) (k := (t_Lat_indexOfChar_7_l q am_fu _ _ _ _ _ e))
theorem c_Lat_indexOfChar {d : Nat} {x1 : Int32} {x2 : Int32} {x3 : Int32} {h : am_H} {Q : am_Q} {res : Int32} (e : f_Lat_indexOfChar x1 x2 x3 = some res) (q : Q (some (.int res)) h) : m_Lat_indexOfChar d [.ref 107, .int x1, .int x2, .int x3] h Q :=
  e_Lat_indexOfChar (t_Lat_indexOfChar_0 e q)
theorem d_Lat_indexOf_0 : decode prog_16_method_22_code 0 = .ok (.iload_n 1, 1) := by decide +kernel
theorem d_Lat_indexOf_1 : decode prog_16_method_22_code 1 = .ok (.invokestatic 88, 3) := by decide +kernel
theorem d_Lat_indexOf_4 : decode prog_16_method_22_code 4 = .ok (.ifCond .ne 5, 3) := by decide +kernel
theorem d_Lat_indexOf_7 : decode prog_16_method_22_code 7 = .ok (.iconst (-1), 1) := by decide +kernel
theorem d_Lat_indexOf_8 : decode prog_16_method_22_code 8 = .ok (.ireturn, 1) := by decide +kernel
theorem d_Lat_indexOf_9 : decode prog_16_method_22_code 9 = .ok (.iload_n 2, 1) := by decide +kernel
theorem d_Lat_indexOf_10 : decode prog_16_method_22_code 10 = .ok (.iconst 0, 1) := by decide +kernel
theorem d_Lat_indexOf_11 : decode prog_16_method_22_code 11 = .ok (.invokestatic 92, 3) := by decide +kernel
theorem d_Lat_indexOf_14 : decode prog_16_method_22_code 14 = .ok (.istore_n 2, 1) := by decide +kernel
theorem d_Lat_indexOf_15 : decode prog_16_method_22_code 15 = .ok (.iload_n 3, 1) := by decide +kernel
theorem d_Lat_indexOf_16 : decode prog_16_method_22_code 16 = .ok (.aload_n 0, 1) := by decide +kernel
theorem d_Lat_indexOf_17 : decode prog_16_method_22_code 17 = .ok (.arraylength, 1) := by decide +kernel
theorem d_Lat_indexOf_18 : decode prog_16_method_22_code 18 = .ok (.invokestatic 38, 3) := by decide +kernel
theorem d_Lat_indexOf_21 : decode prog_16_method_22_code 21 = .ok (.istore_n 3, 1) := by decide +kernel
theorem d_Lat_indexOf_22 : decode prog_16_method_22_code 22 = .ok (.iload_n 2, 1) := by decide +kernel
theorem d_Lat_indexOf_23 : decode prog_16_method_22_code 23 = .ok (.iload_n 3, 1) := by decide +kernel
theorem d_Lat_indexOf_24 : decode prog_16_method_22_code 24 = .ok (.if_icmp .lt 5, 3) := by decide +kernel
theorem d_Lat_indexOf_27 : decode prog_16_method_22_code 27 = .ok (.iconst (-1), 1) := by decide +kernel
theorem d_Lat_indexOf_28 : decode prog_16_method_22_code 28 = .ok (.ireturn, 1) := by decide +kernel
theorem d_Lat_indexOf_29 : decode prog_16_method_22_code 29 = .ok (.aload_n 0, 1) := by decide +kernel
theorem d_Lat_indexOf_30 : decode prog_16_method_22_code 30 = .ok (.iload_n 1, 1) := by decide +kernel
theorem d_Lat_indexOf_31 : decode prog_16_method_22_code 31 = .ok (.iload_n 2, 1) := by decide +kernel
theorem d_Lat_indexOf_32 : decode prog_16_method_22_code 32 = .ok (.iload_n 3, 1) := by decide +kernel
theorem d_Lat_indexOf_33 : decode prog_16_method_22_code 33 = .ok (.invokestatic 95, 3) := by decide +kernel
theorem d_Lat_indexOf_36 : decode prog_16_method_22_code 36 = .ok (.ireturn, 1) := by decide +kernel
theorem b_Lat_indexOf_0 {d : Nat} {x1 : Int32} {x2 : Int32} {x3 : Int32} {h : am_H} {Q : am_Q} (k : m_Lat_canEncode d [.int x1] h (fun r hh => am_W (X_Lat_indexOf (d + 1)) 4 [some (.ref 107), some (.int x1), some (.int x2), some (.int x3)] (r.toList ++ []) hh Q)) : am_W (X_Lat_indexOf (d + 1)) 0 [some (.ref 107), some (.int x1), some (.int x2), some (.int x3)] [] h Q :=
  am_iload_n d_Lat_indexOf_0 rfl (i := 1) rfl <|
    am_callS (vs := [.int x1]) (st := []) rfl d_Lat_indexOf_1 w_590 w_591 w_98 w_592 p_Lat_canEncode (Nat.le_of_ble_eq_true rfl) (Nat.le_of_ble_eq_true rfl) rfl k
theorem b_Lat_indexOf_4 {d : Nat} {x1 : Int32} {x2 : Int32} {x3 : Int32} {y0 : Bool} {h : am_H} {Q : am_Q} (kt : ¬ (am_b y0) = 0 → am_W (X_Lat_indexOf d) 9 [some (.ref 107), some (.int x1), some (.int x2), some (.int x3)] [] h Q) (kf : (am_b y0) = 0 → am_W (X_Lat_indexOf d) 7 [some (.ref 107), some (.int x1), some (.int x2), some (.int x3)] [] h Q) : am_W (X_Lat_indexOf d) 4 [some (.ref 107), some (.int x1), some (.int x2), some (.int x3)] [.int (am_b y0)] h Q :=
  am_if_ne (tgt := 9) d_Lat_indexOf_4 (by decide) kt kf
theorem b_Lat_indexOf_7 {d : Nat} {x1 : Int32} {x2 : Int32} {x3 : Int32} {h : am_H} {Q : am_Q} (q : Q (some (.int (-1))) h) : am_W (X_Lat_indexOf d) 7 [some (.ref 107), some (.int x1), some (.int x2), some (.int x3)] [] h Q :=
  am_iconst (v := (-1)) d_Lat_indexOf_7 (by decide) <|
    am_iret rfl d_Lat_indexOf_8 q
theorem b_Lat_indexOf_9 {d : Nat} {x1 : Int32} {x2 : Int32} {x3 : Int32} {h : am_H} {Q : am_Q} (kt : (if x2 < 0 then 0 else x2) < (if 6 < x3 then 6 else x3) → am_W (X_Lat_indexOf d) 29 [some (.ref 107), some (.int x1), some (.int (if x2 < 0 then 0 else x2)), some (.int (if 6 < x3 then 6 else x3))] [] h Q) (kf : ¬ (if x2 < 0 then 0 else x2) < (if 6 < x3 then 6 else x3) → am_W (X_Lat_indexOf d) 27 [some (.ref 107), some (.int x1), some (.int (if x2 < 0 then 0 else x2)), some (.int (if 6 < x3 then 6 else x3))] [] h Q) : am_W (X_Lat_indexOf d) 9 [some (.ref 107), some (.int x1), some (.int x2), some (.int x3)] [] h Q :=
  am_iload_n d_Lat_indexOf_9 rfl (i := 2) rfl <|
    am_iconst (v := 0) d_Lat_indexOf_10 (by decide) <|
    am_mmax w_593 d_Lat_indexOf_11 (Nat.le_of_ble_eq_true rfl) <|
    am_istore_n (ls' := [some (.ref 107), some (.int x1), some (.int (if x2 < 0 then 0 else x2)), some (.int x3)]) d_Lat_indexOf_14 rfl (Nat.le_of_ble_eq_true rfl) rfl <|
    am_iload_n d_Lat_indexOf_15 rfl (i := 3) rfl <|
    am_aload_n d_Lat_indexOf_16 rfl (i := 0) rfl <|
    am_lenS d_Lat_indexOf_17 <|
    am_mmin w_596 d_Lat_indexOf_18 (Nat.le_of_ble_eq_true rfl) <|
    am_istore_n (ls' := [some (.ref 107), some (.int x1), some (.int (if x2 < 0 then 0 else x2)), some (.int (if 6 < x3 then 6 else x3))]) d_Lat_indexOf_21 rfl (Nat.le_of_ble_eq_true rfl) rfl <|
    am_iload_n d_Lat_indexOf_22 rfl (i := 2) rfl <|
    am_iload_n d_Lat_indexOf_23 rfl (i := 3) rfl <|
    am_icmp_lt (tgt := 29) d_Lat_indexOf_24 (by decide) kt kf
theorem b_Lat_indexOf_27 {d : Nat} {x1 : Int32} {x2 : Int32} {x3 : Int32} {h : am_H} {Q : am_Q} (q : Q (some (.int (-1))) h) : am_W (X_Lat_indexOf d) 27 [some (.ref 107), some (.int x1), some (.int x2), some (.int x3)] [] h Q :=
  am_iconst (v := (-1)) d_Lat_indexOf_27 (by decide) <|
    am_iret rfl d_Lat_indexOf_28 q
theorem b_Lat_indexOf_29 {d : Nat} {x1 : Int32} {x2 : Int32} {x3 : Int32} {h : am_H} {Q : am_Q} (k : m_Lat_indexOfChar d [.ref 107, .int x1, .int x2, .int x3] h (fun r hh => am_W (X_Lat_indexOf (d + 1)) 36 [some (.ref 107), some (.int x1), some (.int x2), some (.int x3)] (r.toList ++ []) hh Q)) : am_W (X_Lat_indexOf (d + 1)) 29 [some (.ref 107), some (.int x1), some (.int x2), some (.int x3)] [] h Q :=
  am_aload_n d_Lat_indexOf_29 rfl (i := 0) rfl <|
    am_iload_n d_Lat_indexOf_30 rfl (i := 1) rfl <|
    am_iload_n d_Lat_indexOf_31 rfl (i := 2) rfl <|
    am_iload_n d_Lat_indexOf_32 rfl (i := 3) rfl <|
    am_callS (vs := [.ref 107, .int x1, .int x2, .int x3]) (st := []) rfl d_Lat_indexOf_33 w_597 w_598 w_98 w_599 p_Lat_indexOfChar (Nat.le_of_ble_eq_true rfl) (Nat.le_of_ble_eq_true rfl) rfl k
theorem b_Lat_indexOf_36 {d : Nat} {x1 : Int32} {x2 : Int32} {x3 : Int32} {y0 : Int32} {h : am_H} {Q : am_Q} (q : Q (some (.int y0)) h) : am_W (X_Lat_indexOf d) 36 [some (.ref 107), some (.int x1), some (.int x2), some (.int x3)] [.int y0] h Q :=
  am_iret rfl d_Lat_indexOf_36 q
theorem t_Lat_indexOf_36 {d : Nat} {x1 : Int32} {x2 : Int32} {x3 : Int32} {y0 : Int32} {h : am_H} {Q : am_Q} {res : Int32} (e : f_Lat_indexOf_36 y0 = some res) (q : Q (some (.int res)) h) : am_W (X_Lat_indexOf (d + 1)) 36 [some (.ref 107), some (.int x1), some (.int x2), some (.int x3)] [.int y0] h Q :=
  b_Lat_indexOf_36 (d := (d + 1)) (q := (am_rIp (v := y0) e q))
theorem t_Lat_indexOf_29 {d : Nat} {x1 : Int32} {x2 : Int32} {x3 : Int32} {h : am_H} {Q : am_Q} {res : Int32} (e : f_Lat_indexOf_29 x1 x2 x3 = some res) (q : Q (some (.int res)) h) : am_W (X_Lat_indexOf (d + 1)) 29 [some (.ref 107), some (.int x1), some (.int x2), some (.int x3)] [] h Q :=
  (am_bd e).elim fun p hp => b_Lat_indexOf_29 (d := d) (k := c_Lat_indexOfChar (d := d) hp.1 (t_Lat_indexOf_36 hp.2 q))
theorem t_Lat_indexOf_27 {d : Nat} {x1 : Int32} {x2 : Int32} {x3 : Int32} {h : am_H} {Q : am_Q} {res : Int32} (e : f_Lat_indexOf_27 = some res) (q : Q (some (.int res)) h) : am_W (X_Lat_indexOf (d + 1)) 27 [some (.ref 107), some (.int x1), some (.int x2), some (.int x3)] [] h Q :=
  b_Lat_indexOf_27 (d := (d + 1)) (q := (am_rIp (v := (-1)) e q))
theorem t_Lat_indexOf_9 {d : Nat} {x1 : Int32} {x2 : Int32} {x3 : Int32} {h : am_H} {Q : am_Q} {res : Int32} (e : f_Lat_indexOf_9 x1 x2 x3 = some res) (q : Q (some (.int res)) h) : am_W (X_Lat_indexOf (d + 1)) 9 [some (.ref 107), some (.int x1), some (.int x2), some (.int x3)] [] h Q :=
  b_Lat_indexOf_9 (d := (d + 1)) (kt := fun c => (t_Lat_indexOf_29 (am_ift e c) q)) (kf := fun c => (t_Lat_indexOf_27 (am_ife e c) q))
theorem t_Lat_indexOf_7 {d : Nat} {x1 : Int32} {x2 : Int32} {x3 : Int32} {h : am_H} {Q : am_Q} {res : Int32} (e : f_Lat_indexOf_7 = some res) (q : Q (some (.int res)) h) : am_W (X_Lat_indexOf (d + 1)) 7 [some (.ref 107), some (.int x1), some (.int x2), some (.int x3)] [] h Q :=
  b_Lat_indexOf_7 (d := (d + 1)) (q := (am_rIp (v := (-1)) e q))
theorem t_Lat_indexOf_4 {d : Nat} {x1 : Int32} {x2 : Int32} {x3 : Int32} {y0 : Bool} {h : am_H} {Q : am_Q} {res : Int32} (e : f_Lat_indexOf_4 x1 x2 x3 y0 = some res) (q : Q (some (.int res)) h) : am_W (X_Lat_indexOf (d + 1)) 4 [some (.ref 107), some (.int x1), some (.int x2), some (.int x3)] [.int (am_b y0)] h Q :=
  b_Lat_indexOf_4 (d := (d + 1)) (kt := fun c => (t_Lat_indexOf_9 (am_ift e (am_bn c)) q)) (kf := fun c => (t_Lat_indexOf_7 (am_iff e (am_bz c)) q))
theorem t_Lat_indexOf_0 {d : Nat} {x1 : Int32} {x2 : Int32} {x3 : Int32} {h : am_H} {Q : am_Q} {res : Int32} (e : f_Lat_indexOf x1 x2 x3 = some res) (q : Q (some (.int res)) h) : am_W (X_Lat_indexOf (d + 1)) 0 [some (.ref 107), some (.int x1), some (.int x2), some (.int x3)] [] h Q :=
  b_Lat_indexOf_0 (d := d) (k := c_Lat_canEncode (d := d) rfl (t_Lat_indexOf_4 e q))
theorem c_Lat_indexOf {d : Nat} {x1 : Int32} {x2 : Int32} {x3 : Int32} {h : am_H} {Q : am_Q} {res : Int32} (e : f_Lat_indexOf x1 x2 x3 = some res) (q : Q (some (.int res)) h) : m_Lat_indexOf (d + 1) [.ref 107, .int x1, .int x2, .int x3] h Q :=
  e_Lat_indexOf (t_Lat_indexOf_0 e q)
theorem d_Str_indexOf_II_0 : decode prog_15_method_80_code 0 = .ok (.aload_n 0, 1) := by decide +kernel
theorem d_Str_indexOf_II_1 : decode prog_15_method_80_code 1 = .ok (.invokevirtual 492, 3) := by decide +kernel
theorem d_Str_indexOf_II_4 : decode prog_15_method_80_code 4 = .ok (.ifCond .eq 19, 3) := by decide +kernel
theorem d_Str_indexOf_II_7 : decode prog_15_method_80_code 7 = .ok (.aload_n 0, 1) := by decide +kernel
theorem d_Str_indexOf_II_8 : decode prog_15_method_80_code 8 = .ok (.getfield 9, 3) := by decide +kernel
theorem d_Str_indexOf_II_11 : decode prog_15_method_80_code 11 = .ok (.iload_n 1, 1) := by decide +kernel
theorem d_Str_indexOf_II_12 : decode prog_15_method_80_code 12 = .ok (.iload_n 2, 1) := by decide +kernel
theorem d_Str_indexOf_II_13 : decode prog_15_method_80_code 13 = .ok (.aload_n 0, 1) := by decide +kernel
theorem d_Str_indexOf_II_14 : decode prog_15_method_80_code 14 = .ok (.invokevirtual 505, 3) := by decide +kernel
theorem d_Str_indexOf_II_17 : decode prog_15_method_80_code 17 = .ok (.invokestatic 637, 3) := by decide +kernel
theorem d_Str_indexOf_II_20 : decode prog_15_method_80_code 20 = .ok (.goto 16, 3) := by decide +kernel
theorem d_Str_indexOf_II_23 : decode prog_15_method_80_code 23 = .ok (.aload_n 0, 1) := by decide +kernel
theorem d_Str_indexOf_II_24 : decode prog_15_method_80_code 24 = .ok (.getfield 9, 3) := by decide +kernel
theorem d_Str_indexOf_II_27 : decode prog_15_method_80_code 27 = .ok (.iload_n 1, 1) := by decide +kernel
theorem d_Str_indexOf_II_28 : decode prog_15_method_80_code 28 = .ok (.iload_n 2, 1) := by decide +kernel
theorem d_Str_indexOf_II_29 : decode prog_15_method_80_code 29 = .ok (.aload_n 0, 1) := by decide +kernel
theorem d_Str_indexOf_II_30 : decode prog_15_method_80_code 30 = .ok (.invokevirtual 505, 3) := by decide +kernel
theorem d_Str_indexOf_II_33 : decode prog_15_method_80_code 33 = .ok (.invokestatic 640, 3) := by decide +kernel
theorem d_Str_indexOf_II_36 : decode prog_15_method_80_code 36 = .ok (.ireturn, 1) := by decide +kernel
theorem b_Str_indexOf_II_0 {d : Nat} {x1 : Int32} {x2 : Int32} {h : am_H} {Q : am_Q} (k : m_Str_isLatin1 d [.ref 106] h (fun r hh => am_W (X_Str_indexOf_II (d + 1)) 4 [some (.ref 106), some (.int x1), some (.int x2)] (r.toList ++ []) hh Q)) : am_W (X_Str_indexOf_II (d + 1)) 0 [some (.ref 106), some (.int x1), some (.int x2)] [] h Q :=
  am_aload_n d_Str_indexOf_II_0 rfl (i := 0) rfl <|
    am_callVS (vs := []) (st := []) rfl d_Str_indexOf_II_1 rfl w_573 w_574 w_575 w_97 w_576 p_Str_isLatin1 (Nat.le_of_ble_eq_true rfl) (Nat.le_of_ble_eq_true rfl) rfl k
theorem b_Str_indexOf_II_4 {d : Nat} {x1 : Int32} {x2 : Int32} {y0 : Bool} {h : am_H} {Q : am_Q} (kt : (am_b y0) = 0 → am_W (X_Str_indexOf_II d) 23 [some (.ref 106), some (.int x1), some (.int x2)] [] h Q) (kf : ¬ (am_b y0) = 0 → am_W (X_Str_indexOf_II d) 7 [some (.ref 106), some (.int x1), some (.int x2)] [] h Q) : am_W (X_Str_indexOf_II d) 4 [some (.ref 106), some (.int x1), some (.int x2)] [.int (am_b y0)] h Q :=
  am_if_eq (tgt := 23) d_Str_indexOf_II_4 (by decide) kt kf
theorem b_Str_indexOf_II_7 {d : Nat} {x1 : Int32} {x2 : Int32} {h : am_H} {Q : am_Q} (k : m_Str_length d [.ref 106] h (fun r hh => am_W (X_Str_indexOf_II (d + 1)) 17 [some (.ref 106), some (.int x1), some (.int x2)] (r.toList ++ [.int x2, .int x1, .ref 107]) hh Q)) : am_W (X_Str_indexOf_II (d + 1)) 7 [some (.ref 106), some (.int x1), some (.int x2)] [] h Q :=
  am_aload_n d_Str_indexOf_II_7 rfl (i := 0) rfl <|
    am_getSv w_1818 d_Str_indexOf_II_8 <|
    am_iload_n d_Str_indexOf_II_11 rfl (i := 1) rfl <|
    am_iload_n d_Str_indexOf_II_12 rfl (i := 2) rfl <|
    am_aload_n d_Str_indexOf_II_13 rfl (i := 0) rfl <|
    am_callVS (vs := []) (st := [.int x2, .int x1, .ref 107]) rfl d_Str_indexOf_II_14 rfl w_579 w_580 w_581 w_97 w_582 p_Str_length (Nat.le_of_ble_eq_true rfl) (Nat.le_of_ble_eq_true rfl) rfl k
theorem b_Str_indexOf_II_17 {d : Nat} {x1 : Int32} {x2 : Int32} {y3 : Int32} {y2 : Int32} {y1 : Int32} {h : am_H} {Q : am_Q} (k : m_Lat_indexOf d [.ref 107, .int y1, .int y2, .int y3] h (fun r hh => am_W (X_Str_indexOf_II (d + 1)) 20 [some (.ref 106), some (.int x1), some (.int x2)] (r.toList ++ []) hh Q)) : am_W (X_Str_indexOf_II (d + 1)) 17 [some (.ref 106), some (.int x1), some (.int x2)] [.int y3, .int y2, .int y1, .ref 107] h Q :=
  am_callS (vs := [.ref 107, .int y1, .int y2, .int y3]) (st := []) rfl d_Str_indexOf_II_17 w_587 w_588 w_98 w_589 p_Lat_indexOf (Nat.le_of_ble_eq_true rfl) (Nat.le_of_ble_eq_true rfl) rfl k
theorem b_Str_indexOf_II_20 {d : Nat} {x1 : Int32} {x2 : Int32} {y0 : Int32} {h : am_H} {Q : am_Q} (q : Q (some (.int y0)) h) : am_W (X_Str_indexOf_II d) 20 [some (.ref 106), some (.int x1), some (.int x2)] [.int y0] h Q :=
  am_goto (tgt := 36) d_Str_indexOf_II_20 (by decide) <|
    am_iret rfl d_Str_indexOf_II_36 q
theorem b_Str_indexOf_II_23 {d : Nat} {x1 : Int32} {x2 : Int32} {h : am_H} {Q : am_Q} (k : m_Str_length d [.ref 106] h (fun r hh => am_W (X_Str_indexOf_II (d + 1)) 33 [some (.ref 106), some (.int x1), some (.int x2)] (r.toList ++ [.int x2, .int x1, .ref 107]) hh Q)) : am_W (X_Str_indexOf_II (d + 1)) 23 [some (.ref 106), some (.int x1), some (.int x2)] [] h Q :=
  am_aload_n d_Str_indexOf_II_23 rfl (i := 0) rfl <|
    am_getSv w_1818 d_Str_indexOf_II_24 <|
    am_iload_n d_Str_indexOf_II_27 rfl (i := 1) rfl <|
    am_iload_n d_Str_indexOf_II_28 rfl (i := 2) rfl <|
    am_aload_n d_Str_indexOf_II_29 rfl (i := 0) rfl <|
    am_callVS (vs := []) (st := [.int x2, .int x1, .ref 107]) rfl d_Str_indexOf_II_30 rfl w_579 w_580 w_581 w_97 w_582 p_Str_length (Nat.le_of_ble_eq_true rfl) (Nat.le_of_ble_eq_true rfl) rfl k
theorem t_Str_indexOf_II_33 {d : Nat} {x1 : Int32} {x2 : Int32} {y3 : Int32} {y2 : Int32} {y1 : Int32} {h : am_H} {Q : am_Q} {res : Int32} (e : f_Str_indexOf_II_33 y3 y2 y1 = some res) (q : Q (some (.int res)) h) : am_W (X_Str_indexOf_II (d + 2)) 33 [some (.ref 106), some (.int x1), some (.int x2)] [.int y3, .int y2, .int y1, .ref 107] h Q :=
  am_nn e
theorem t_Str_indexOf_II_23 {d : Nat} {x1 : Int32} {x2 : Int32} {h : am_H} {Q : am_Q} {res : Int32} (e : f_Str_indexOf_II_23 x1 x2 = some res) (q : Q (some (.int res)) h) : am_W (X_Str_indexOf_II (d + 2)) 23 [some (.ref 106), some (.int x1), some (.int x2)] [] h Q :=
  b_Str_indexOf_II_23 (d := (d + 1)) (k := c_Str_length (d := d) rfl (t_Str_indexOf_II_33 e q))
theorem t_Str_indexOf_II_20 {d : Nat} {x1 : Int32} {x2 : Int32} {y0 : Int32} {h : am_H} {Q : am_Q} {res : Int32} (e : f_Str_indexOf_II_20 y0 = some res) (q : Q (some (.int res)) h) : am_W (X_Str_indexOf_II (d + 2)) 20 [some (.ref 106), some (.int x1), some (.int x2)] [.int y0] h Q :=
  b_Str_indexOf_II_20 (d := (d + 2)) (q := (am_rIp (v := y0) e q))
theorem t_Str_indexOf_II_17 {d : Nat} {x1 : Int32} {x2 : Int32} {y3 : Int32} {y2 : Int32} {y1 : Int32} {h : am_H} {Q : am_Q} {res : Int32} (e : f_Str_indexOf_II_17 y3 y2 y1 = some res) (q : Q (some (.int res)) h) : am_W (X_Str_indexOf_II (d + 2)) 17 [some (.ref 106), some (.int x1), some (.int x2)] [.int y3, .int y2, .int y1, .ref 107] h Q :=
  (am_bd e).elim fun p hp => b_Str_indexOf_II_17 (d := (d + 1)) (k := c_Lat_indexOf (d := d) hp.1 (t_Str_indexOf_II_20 hp.2 q))
theorem t_Str_indexOf_II_7 {d : Nat} {x1 : Int32} {x2 : Int32} {h : am_H} {Q : am_Q} {res : Int32} (e : f_Str_indexOf_II_7 x1 x2 = some res) (q : Q (some (.int res)) h) : am_W (X_Str_indexOf_II (d + 2)) 7 [some (.ref 106), some (.int x1), some (.int x2)] [] h Q :=
  b_Str_indexOf_II_7 (d := (d + 1)) (k := c_Str_length (d := d) rfl (t_Str_indexOf_II_17 e q))
theorem t_Str_indexOf_II_4 {d : Nat} {x1 : Int32} {x2 : Int32} {y0 : Bool} {h : am_H} {Q : am_Q} {res : Int32} (e : f_Str_indexOf_II_4 x1 x2 y0 = some res) (q : Q (some (.int res)) h) : am_W (X_Str_indexOf_II (d + 2)) 4 [some (.ref 106), some (.int x1), some (.int x2)] [.int (am_b y0)] h Q :=
  b_Str_indexOf_II_4 (d := (d + 2)) (kt := fun c => (t_Str_indexOf_II_23 (am_iff e (am_bz c)) q)) (kf := fun c => (t_Str_indexOf_II_7 (am_ift e (am_bn c)) q))
theorem t_Str_indexOf_II_0 {d : Nat} {x1 : Int32} {x2 : Int32} {h : am_H} {Q : am_Q} {res : Int32} (e : f_Str_indexOf_II x1 x2 = some res) (q : Q (some (.int res)) h) : am_W (X_Str_indexOf_II (d + 2)) 0 [some (.ref 106), some (.int x1), some (.int x2)] [] h Q :=
  b_Str_indexOf_II_0 (d := (d + 1)) (k := c_Str_isLatin1 (d := d + 1) rfl (t_Str_indexOf_II_4 e q))
theorem c_Str_indexOf_II {d : Nat} {x1 : Int32} {x2 : Int32} {h : am_H} {Q : am_Q} {res : Int32} (e : f_Str_indexOf_II x1 x2 = some res) (q : Q (some (.int res)) h) : m_Str_indexOf_II (d + 2) [.ref 106, .int x1, .int x2] h Q :=
  e_Str_indexOf_II (t_Str_indexOf_II_0 e q)
theorem d_Str_indexOf_I_0 : decode prog_15_method_79_code 0 = .ok (.aload_n 0, 1) := by decide +kernel
theorem d_Str_indexOf_I_1 : decode prog_15_method_79_code 1 = .ok (.iload_n 1, 1) := by decide +kernel
theorem d_Str_indexOf_I_2 : decode prog_15_method_79_code 2 = .ok (.iconst 0, 1) := by decide +kernel
theorem d_Str_indexOf_I_3 : decode prog_15_method_79_code 3 = .ok (.invokevirtual 633, 3) := by decide +kernel
theorem d_Str_indexOf_I_6 : decode prog_15_method_79_code 6 = .ok (.ireturn, 1) := by decide +kernel
theorem b_Str_indexOf_I_0 {d : Nat} {x1 : Int32} {h : am_H} {Q : am_Q} (k : m_Str_indexOf_II d [.ref 106, .int x1, .int 0] h (fun r hh => am_W (X_Str_indexOf_I (d + 1)) 6 [some (.ref 106), some (.int x1)] (r.toList ++ []) hh Q)) : am_W (X_Str_indexOf_I (d + 1)) 0 [some (.ref 106), some (.int x1)] [] h Q :=
  am_aload_n d_Str_indexOf_I_0 rfl (i := 0) rfl <|
    am_iload_n d_Str_indexOf_I_1 rfl (i := 1) rfl <|
    am_iconst (v := 0) d_Str_indexOf_I_2 (by decide) <|
    am_callVS (vs := [.int x1, .int 0]) (st := []) rfl d_Str_indexOf_I_3 rfl w_569 w_570 w_571 w_97 w_572 p_Str_indexOf_II (Nat.le_of_ble_eq_true rfl) (Nat.le_of_ble_eq_true rfl) rfl k
theorem b_Str_indexOf_I_6 {d : Nat} {x1 : Int32} {y0 : Int32} {h : am_H} {Q : am_Q} (q : Q (some (.int y0)) h) : am_W (X_Str_indexOf_I d) 6 [some (.ref 106), some (.int x1)] [.int y0] h Q :=
  am_iret rfl d_Str_indexOf_I_6 q
theorem t_Str_indexOf_I_6 {d : Nat} {x1 : Int32} {y0 : Int32} {h : am_H} {Q : am_Q} {res : Int32} (e : f_Str_indexOf_I_6 y0 = some res) (q : Q (some (.int res)) h) : am_W (X_Str_indexOf_I (d + 3)) 6 [some (.ref 106), some (.int x1)] [.int y0] h Q :=
  b_Str_indexOf_I_6 (d := (d + 3)) (q := (am_rIp (v := y0) e q))
theorem t_Str_indexOf_I_0 {d : Nat} {x1 : Int32} {h : am_H} {Q : am_Q} {res : Int32} (e : f_Str_indexOf_I x1 = some res) (q : Q (some (.int res)) h) : am_W (X_Str_indexOf_I (d + 3)) 0 [some (.ref 106), some (.int x1)] [] h Q :=
  (am_bd e).elim fun p hp => b_Str_indexOf_I_0 (d := (d + 2)) (k := c_Str_indexOf_II (d := d) hp.1 (t_Str_indexOf_I_6 hp.2 q))
theorem c_Str_indexOf_I {d : Nat} {x1 : Int32} {h : am_H} {Q : am_Q} {res : Int32} (e : f_Str_indexOf_I x1 = some res) (q : Q (some (.int res)) h) : m_Str_indexOf_I (d + 3) [.ref 106, .int x1] h Q :=
  e_Str_indexOf_I (t_Str_indexOf_I_0 e q)
theorem d_Law_readBracket_0 : decode prog_6_method_13_code 0 = .ok (.aload_n 0, 1) := by decide +kernel
theorem d_Law_readBracket_1 : decode prog_6_method_13_code 1 = .ok (.iconst 0, 1) := by decide +kernel
theorem d_Law_readBracket_2 : decode prog_6_method_13_code 2 = .ok (.iload_n 1, 1) := by decide +kernel
theorem d_Law_readBracket_3 : decode prog_6_method_13_code 3 = .ok (.invokevirtual 57, 3) := by decide +kernel
theorem d_Law_readBracket_6 : decode prog_6_method_13_code 6 = .ok (.ifCond .eq 12, 3) := by decide +kernel
theorem d_Law_readBracket_9 : decode prog_6_method_13_code 9 = .ok (.aload_n 0, 1) := by decide +kernel
theorem d_Law_readBracket_10 : decode prog_6_method_13_code 10 = .ok (.invokevirtual 53, 3) := by decide +kernel
theorem d_Law_readBracket_13 : decode prog_6_method_13_code 13 = .ok (.bipush 41, 2) := by decide +kernel
theorem d_Law_readBracket_15 : decode prog_6_method_13_code 15 = .ok (.if_icmp .eq 5, 3) := by decide +kernel
theorem d_Law_readBracket_18 : decode prog_6_method_13_code 18 = .ok (.iconst 0, 1) := by decide +kernel
theorem d_Law_readBracket_19 : decode prog_6_method_13_code 19 = .ok (.ireturn, 1) := by decide +kernel
theorem d_Law_readBracket_20 : decode prog_6_method_13_code 20 = .ok (.aload_n 0, 1) := by decide +kernel
theorem d_Law_readBracket_21 : decode prog_6_method_13_code 21 = .ok (.dup, 1) := by decide +kernel
theorem d_Law_readBracket_22 : decode prog_6_method_13_code 22 = .ok (.getfield 31, 3) := by decide +kernel
theorem d_Law_readBracket_25 : decode prog_6_method_13_code 25 = .ok (.iconst 1, 1) := by decide +kernel
theorem d_Law_readBracket_26 : decode prog_6_method_13_code 26 = .ok (.iadd, 1) := by decide +kernel
theorem d_Law_readBracket_27 : decode prog_6_method_13_code 27 = .ok (.putfield 31, 3) := by decide +kernel
theorem d_Law_readBracket_30 : decode prog_6_method_13_code 30 = .ok (.iconst 1, 1) := by decide +kernel
theorem d_Law_readBracket_31 : decode prog_6_method_13_code 31 = .ok (.ireturn, 1) := by decide +kernel
theorem b_Law_readBracket_0 {d : Nat} {x1 : Int32} {h : am_H} {Q : am_Q} (k : m_Law_readLevel d [.ref 6, .int 0, .int x1] h (fun r hh => am_W (X_Law_readBracket (d + 1)) 6 [some (.ref 6), some (.int x1)] (r.toList ++ []) hh Q)) : am_W (X_Law_readBracket (d + 1)) 0 [some (.ref 6), some (.int x1)] [] h Q :=
  am_aload_n d_Law_readBracket_0 rfl (i := 0) rfl <|
    am_iconst (v := 0) d_Law_readBracket_1 (by decide) <|
    am_iload_n d_Law_readBracket_2 rfl (i := 1) rfl <|
    am_callV (vs := [.int 0, .int x1]) (st := []) (k := 6) (ci := 2) rfl d_Law_readBracket_3 rfl rfl w_541 w_543 w_6 w_86 w_544 p_Law_readLevel (Nat.le_of_ble_eq_true rfl) (Nat.le_of_ble_eq_true rfl) rfl k
theorem b_Law_readBracket_6 {d : Nat} {x1 : Int32} {y0 : Bool} {h : am_H} {Q : am_Q} (kt : (am_b y0) = 0 → am_W (X_Law_readBracket d) 18 [some (.ref 6), some (.int x1)] [] h Q) (kf : ¬ (am_b y0) = 0 → am_W (X_Law_readBracket d) 9 [some (.ref 6), some (.int x1)] [] h Q) : am_W (X_Law_readBracket d) 6 [some (.ref 6), some (.int x1)] [.int (am_b y0)] h Q :=
  am_if_eq (tgt := 18) d_Law_readBracket_6 (by decide) kt kf
theorem b_Law_readBracket_9 {d : Nat} {x1 : Int32} {h : am_H} {Q : am_Q} (k : m_Law_next d [.ref 6] h (fun r hh => am_W (X_Law_readBracket (d + 1)) 13 [some (.ref 6), some (.int x1)] (r.toList ++ []) hh Q)) : am_W (X_Law_readBracket (d + 1)) 9 [some (.ref 6), some (.int x1)] [] h Q :=
  am_aload_n d_Law_readBracket_9 rfl (i := 0) rfl <|
    am_callV (vs := []) (st := []) (k := 6) (ci := 2) rfl d_Law_readBracket_10 rfl rfl w_549 w_551 w_8 w_86 w_552 p_Law_next (Nat.le_of_ble_eq_true rfl) (Nat.le_of_ble_eq_true rfl) rfl k
theorem b_Law_readBracket_13 {d : Nat} {x1 : Int32} {y0 : Int32} {h : am_H} {Q : am_Q} (kt : y0 = 41 → am_W (X_Law_readBracket d) 20 [some (.ref 6), some (.int x1)] [] h Q) (kf : ¬ y0 = 41 → am_W (X_Law_readBracket d) 18 [some (.ref 6), some (.int x1)] [] h Q) : am_W (X_Law_readBracket d) 13 [some (.ref 6), some (.int x1)] [.int y0] h Q :=
  am_bipush (v := 41) d_Law_readBracket_13 (by decide) <|
    am_icmp_eq (tgt := 20) d_Law_readBracket_15 (by decide) kt kf
theorem b_Law_readBracket_18 {d : Nat} {x1 : Int32} {h : am_H} {Q : am_Q} (q : Q (some (.int 0)) h) : am_W (X_Law_readBracket d) 18 [some (.ref 6), some (.int x1)] [] h Q :=
  am_iconst (v := 0) d_Law_readBracket_18 (by decide) <|
    am_zret (ty := .boolean) rfl (by decide) d_Law_readBracket_19 q
theorem b_Law_readBracket_20 {d : Nat} {x1 : Int32} {h : am_H} {Q : am_Q} (q : Q (some (.int 1)) (am_pI h 6 6 ((h.1 6 6) + 1))) : am_W (X_Law_readBracket d) 20 [some (.ref 6), some (.int x1)] [] h Q :=
  am_aload_n d_Law_readBracket_20 rfl (i := 0) rfl <|
    am_dupR d_Law_readBracket_21 <|
    am_getI (ci := 2) (i := 6) rfl rfl rfl (Nat.le_of_ble_eq_true rfl) w_166 d_Law_readBracket_22 <|
    am_iconst (v := 1) d_Law_readBracket_25 (by decide) <|
    am_iadd d_Law_readBracket_26 <|
    am_putI (ci := 2) (i := 6) rfl rfl rfl (Nat.le_of_ble_eq_true rfl) w_166 rfl rfl rfl d_Law_readBracket_27 <|
    am_iconst (v := 1) d_Law_readBracket_30 (by decide) <|
    am_zret (ty := .boolean) rfl (by decide) d_Law_readBracket_31 q
theorem d_Law_readLevel_0 : decode prog_6_method_9_code 0 = .ok (.iload_n 1, 1) := by decide +kernel
theorem d_Law_readLevel_1 : decode prog_6_method_9_code 1 = .ok (.iconst 5, 1) := by decide +kernel
theorem d_Law_readLevel_2 : decode prog_6_method_9_code 2 = .ok (.if_icmp .lt 9, 3) := by decide +kernel
theorem d_Law_readLevel_5 : decode prog_6_method_9_code 5 = .ok (.aload_n 0, 1) := by decide +kernel
theorem d_Law_readLevel_6 : decode prog_6_method_9_code 6 = .ok (.iload_n 2, 1) := by decide +kernel
theorem d_Law_readLevel_7 : decode prog_6_method_9_code 7 = .ok (.invokevirtual 65, 3) := by decide +kernel
theorem d_Law_readLevel_10 : decode prog_6_method_9_code 10 = .ok (.ireturn, 1) := by decide +kernel
theorem d_Law_readLevel_11 : decode prog_6_method_9_code 11 = .ok (.aload_n 0, 1) := by decide +kernel
theorem d_Law_readLevel_12 : decode prog_6_method_9_code 12 = .ok (.iload_n 1, 1) := by decide +kernel
theorem d_Law_readLevel_13 : decode prog_6_method_9_code 13 = .ok (.iconst 1, 1) := by decide +kernel
theorem d_Law_readLevel_14 : decode prog_6_method_9_code 14 = .ok (.iadd, 1) := by decide +kernel
theorem d_Law_readLevel_15 : decode prog_6_method_9_code 15 = .ok (.iload_n 2, 1) := by decide +kernel
theorem d_Law_readLevel_16 : decode prog_6_method_9_code 16 = .ok (.invokevirtual 57, 3) := by decide +kernel
theorem d_Law_readLevel_19 : decode prog_6_method_9_code 19 = .ok (.ifCond .ne 5, 3) := by decide +kernel
theorem d_Law_readLevel_22 : decode prog_6_method_9_code 22 = .ok (.iconst 0, 1) := by decide +kernel
theorem d_Law_readLevel_23 : decode prog_6_method_9_code 23 = .ok (.ireturn, 1) := by decide +kernel
theorem d_Law_readLevel_24 : decode prog_6_method_9_code 24 = .ok (.iconst 0, 1) := by decide +kernel
theorem d_Law_readLevel_25 : decode prog_6_method_9_code 25 = .ok (.istore_n 3, 1) := by decide +kernel
theorem d_Law_readLevel_26 : decode prog_6_method_9_code 26 = .ok (.iload_n 3, 1) := by decide +kernel
theorem d_Law_readLevel_27 : decode prog_6_method_9_code 27 = .ok (.bipush 120, 2) := by decide +kernel
theorem d_Law_readLevel_29 : decode prog_6_method_9_code 29 = .ok (.if_icmp .ge 62, 3) := by decide +kernel
theorem d_Law_readLevel_32 : decode prog_6_method_9_code 32 = .ok (.iload_n 1, 1) := by decide +kernel
theorem d_Law_readLevel_33 : decode prog_6_method_9_code 33 = .ok (.aload_n 0, 1) := by decide +kernel
theorem d_Law_readLevel_34 : decode prog_6_method_9_code 34 = .ok (.invokevirtual 53, 3) := by decide +kernel
theorem d_Law_readLevel_37 : decode prog_6_method_9_code 37 = .ok (.invokestatic 69, 3) := by decide +kernel
theorem d_Law_readLevel_40 : decode prog_6_method_9_code 40 = .ok (.istore 4, 2) := by decide +kernel
theorem d_Law_readLevel_42 : decode prog_6_method_9_code 42 = .ok (.iload 4, 2) := by decide +kernel
theorem d_Law_readLevel_44 : decode prog_6_method_9_code 44 = .ok (.ifCond .ne 5, 3) := by decide +kernel
theorem d_Law_readLevel_47 : decode prog_6_method_9_code 47 = .ok (.iconst 1, 1) := by decide +kernel
theorem d_Law_readLevel_48 : decode prog_6_method_9_code 48 = .ok (.ireturn, 1) := by decide +kernel
theorem d_Law_readLevel_49 : decode prog_6_method_9_code 49 = .ok (.aload_n 0, 1) := by decide +kernel
theorem d_Law_readLevel_50 : decode prog_6_method_9_code 50 = .ok (.dup, 1) := by decide +kernel
theorem d_Law_readLevel_51 : decode prog_6_method_9_code 51 = .ok (.getfield 31, 3) := by decide +kernel
theorem d_Law_readLevel_54 : decode prog_6_method_9_code 54 = .ok (.iconst 1, 1) := by decide +kernel
theorem d_Law_readLevel_55 : decode prog_6_method_9_code 55 = .ok (.iadd, 1) := by decide +kernel
theorem d_Law_readLevel_56 : decode prog_6_method_9_code 56 = .ok (.putfield 31, 3) := by decide +kernel
theorem d_Law_readLevel_59 : decode prog_6_method_9_code 59 = .ok (.aload_n 0, 1) := by decide +kernel
theorem d_Law_readLevel_60 : decode prog_6_method_9_code 60 = .ok (.iload_n 1, 1) := by decide +kernel
theorem d_Law_readLevel_61 : decode prog_6_method_9_code 61 = .ok (.iconst 1, 1) := by decide +kernel
theorem d_Law_readLevel_62 : decode prog_6_method_9_code 62 = .ok (.iadd, 1) := by decide +kernel
theorem d_Law_readLevel_63 : decode prog_6_method_9_code 63 = .ok (.iload_n 2, 1) := by decide +kernel
theorem d_Law_readLevel_64 : decode prog_6_method_9_code 64 = .ok (.invokevirtual 57, 3) := by decide +kernel
theorem d_Law_readLevel_67 : decode prog_6_method_9_code 67 = .ok (.ifCond .ne 5, 3) := by decide +kernel
theorem d_Law_readLevel_70 : decode prog_6_method_9_code 70 = .ok (.iconst 0, 1) := by decide +kernel
theorem d_Law_readLevel_71 : decode prog_6_method_9_code 71 = .ok (.ireturn, 1) := by decide +kernel
theorem d_Law_readLevel_72 : decode prog_6_method_9_code 72 = .ok (.aload_n 0, 1) := by decide +kernel
theorem d_Law_readLevel_73 : decode prog_6_method_9_code 73 = .ok (.iload 4, 2) := by decide +kernel
theorem d_Law_readLevel_75 : decode prog_6_method_9_code 75 = .ok (.invokevirtual 61, 3) := by decide +kernel
theorem d_Law_readLevel_78 : decode prog_6_method_9_code 78 = .ok (.iload_n 1, 1) := by decide +kernel
theorem d_Law_readLevel_79 : decode prog_6_method_9_code 79 = .ok (.iconst 2, 1) := by decide +kernel
theorem d_Law_readLevel_80 : decode prog_6_method_9_code 80 = .ok (.if_icmp .ne 5, 3) := by decide +kernel
theorem d_Law_readLevel_83 : decode prog_6_method_9_code 83 = .ok (.iconst 1, 1) := by decide +kernel
theorem d_Law_readLevel_84 : decode prog_6_method_9_code 84 = .ok (.ireturn, 1) := by decide +kernel
theorem d_Law_readLevel_85 : decode prog_6_method_9_code 85 = .ok (.iinc 3 1, 3) := by decide +kernel
theorem d_Law_readLevel_88 : decode prog_6_method_9_code 88 = .ok (.goto (-62), 3) := by decide +kernel
theorem d_Law_readLevel_91 : decode prog_6_method_9_code 91 = .ok (.iconst 1, 1) := by decide +kernel
theorem d_Law_readLevel_92 : decode prog_6_method_9_code 92 = .ok (.ireturn, 1) := by decide +kernel
theorem b_Law_readLevel_0 {d : Nat} {x1 : Int32} {x2 : Int32} {h : am_H} {Q : am_Q} (kt : x1 < 5 → am_W (X_Law_readLevel d) 11 [some (.ref 6), some (.int x1), some (.int x2), none, none] [] h Q) (kf : ¬ x1 < 5 → am_W (X_Law_readLevel d) 5 [some (.ref 6), some (.int x1), some (.int x2), none, none] [] h Q) : am_W (X_Law_readLevel d) 0 [some (.ref 6), some (.int x1), some (.int x2), none, none] [] h Q :=
  am_iload_n d_Law_readLevel_0 rfl (i := 1) rfl <|
    am_iconst (v := 5) d_Law_readLevel_1 (by decide) <|
    am_icmp_lt (tgt := 11) d_Law_readLevel_2 (by decide) kt kf
theorem b_Law_readLevel_5 {d : Nat} {x1 : Int32} {x2 : Int32} {h : am_H} {Q : am_Q} (k : m_Law_readOperand d [.ref 6, .int x2] h (fun r hh => am_W (X_Law_readLevel (d + 1)) 10 [some (.ref 6), some (.int x1), some (.int x2), none, none] (r.toList ++ []) hh Q)) : am_W (X_Law_readLevel (d + 1)) 5 [some (.ref 6), some (.int x1), some (.int x2), none, none] [] h Q :=
  am_aload_n d_Law_readLevel_5 rfl (i := 0) rfl <|
    am_iload_n d_Law_readLevel_6 rfl (i := 2) rfl <|
    am_callV (vs := [.int x2]) (st := []) (k := 6) (ci := 2) rfl d_Law_readLevel_7 rfl rfl w_545 w_547 w_7 w_86 w_548 p_Law_readOperand (Nat.le_of_ble_eq_true rfl) (Nat.le_of_ble_eq_true rfl) rfl k
theorem b_Law_readLevel_10 {d : Nat} {x1 : Int32} {x2 : Int32} {y0 : Bool} {h : am_H} {Q : am_Q} (q : Q (some (.int (am_b y0))) h) : am_W (X_Law_readLevel d) 10 [some (.ref 6), some (.int x1), some (.int x2), none, none] [.int (am_b y0)] h Q :=
  am_zret (ty := .boolean) rfl am_nb d_Law_readLevel_10 q
theorem b_Law_readLevel_11 {d : Nat} {x1 : Int32} {x2 : Int32} {h : am_H} {Q : am_Q} (k : m_Law_readLevel d [.ref 6, .int (x1 + 1), .int x2] h (fun r hh => am_W (X_Law_readLevel (d + 1)) 19 [some (.ref 6), some (.int x1), some (.int x2), none, none] (r.toList ++ []) hh Q)) : am_W (X_Law_readLevel (d + 1)) 11 [some (.ref 6), some (.int x1), some (.int x2), none, none] [] h Q :=
  am_aload_n d_Law_readLevel_11 rfl (i := 0) rfl <|
    am_iload_n d_Law_readLevel_12 rfl (i := 1) rfl <|
    am_iconst (v := 1) d_Law_readLevel_13 (by decide) <|
    am_iadd d_Law_readLevel_14 <|
    am_iload_n d_Law_readLevel_15 rfl (i := 2) rfl <|
    am_callV (vs := [.int (x1 + 1), .int x2]) (st := []) (k := 6) (ci := 2) rfl d_Law_readLevel_16 rfl rfl w_541 w_543 w_6 w_86 w_544 p_Law_readLevel (Nat.le_of_ble_eq_true rfl) (Nat.le_of_ble_eq_true rfl) rfl k
theorem b_Law_readLevel_19 {d : Nat} {x1 : Int32} {x2 : Int32} {y0 : Bool} {h : am_H} {Q : am_Q} (kt : ¬ (am_b y0) = 0 → am_W (X_Law_readLevel d) 24 [some (.ref 6), some (.int x1), some (.int x2), none, none] [] h Q) (kf : (am_b y0) = 0 → am_W (X_Law_readLevel d) 22 [some (.ref 6), some (.int x1), some (.int x2), none, none] [] h Q) : am_W (X_Law_readLevel d) 19 [some (.ref 6), some (.int x1), some (.int x2), none, none] [.int (am_b y0)] h Q :=
  am_if_ne (tgt := 24) d_Law_readLevel_19 (by decide) kt kf
theorem b_Law_readLevel_22 {d : Nat} {x1 : Int32} {x2 : Int32} {h : am_H} {Q : am_Q} (q : Q (some (.int 0)) h) : am_W (X_Law_readLevel d) 22 [some (.ref 6), some (.int x1), some (.int x2), none, none] [] h Q :=
  am_iconst (v := 0) d_Law_readLevel_22 (by decide) <|
    am_zret (ty := .boolean) rfl (by decide) d_Law_readLevel_23 q
theorem b_Law_readLevel_24 {d : Nat} {x1 : Int32} {x2 : Int32} {h : am_H} {Q : am_Q} (k : am_W (X_Law_readLevel d) 26 [some (.ref 6), some (.int x1), some (.int x2), some (.int 0), none] [] h Q) : am_W (X_Law_readLevel d) 24 [some (.ref 6), some (.int x1), some (.int x2), none, none] [] h Q :=
  am_iconst (v := 0) d_Law_readLevel_24 (by decide) <|
    am_istore_n (ls' := [some (.ref 6), some (.int x1), some (.int x2), some (.int 0), none]) d_Law_readLevel_25 rfl (Nat.le_of_ble_eq_true rfl) rfl <|
    k
theorem b_Law_readLevel_26 {d : Nat} {x1 : Int32} {x2 : Int32} {x3 : Int32} {h : am_H} {Q : am_Q} (kt : 120 ≤ x3 → am_W (X_Law_readLevel d) 91 [some (.ref 6), some (.int x1), some (.int x2), some (.int x3), none] [] h Q) (kf : ¬ 120 ≤ x3 → am_W (X_Law_readLevel d) 32 [some (.ref 6), some (.int x1), some (.int x2), some (.int x3), none] [] h Q) : am_W (X_Law_readLevel d) 26 [some (.ref 6), some (.int x1), some (.int x2), some (.int x3), none] [] h Q :=
  am_iload_n d_Law_readLevel_26 rfl (i := 3) rfl <|
    am_bipush (v := 120) d_Law_readLevel_27 (by decide) <|
    am_icmp_ge (tgt := 91) d_Law_readLevel_29 (by decide) kt kf
theorem b_Law_readLevel_32 {d : Nat} {x1 : Int32} {x2 : Int32} {x3 : Int32} {h : am_H} {Q : am_Q} (k : m_Law_next d [.ref 6] h (fun r hh => am_W (X_Law_readLevel (d + 1)) 37 [some (.ref 6), some (.int x1), some (.int x2), some (.int x3), none] (r.toList ++ [.int x1]) hh Q)) : am_W (X_Law_readLevel (d + 1)) 32 [some (.ref 6), some (.int x1), some (.int x2), some (.int x3), none] [] h Q :=
  am_iload_n d_Law_readLevel_32 rfl (i := 1) rfl <|
    am_aload_n d_Law_readLevel_33 rfl (i := 0) rfl <|
    am_callV (vs := []) (st := [.int x1]) (k := 6) (ci := 2) rfl d_Law_readLevel_34 rfl rfl w_549 w_551 w_8 w_86 w_552 p_Law_next (Nat.le_of_ble_eq_true rfl) (Nat.le_of_ble_eq_true rfl) rfl k
theorem b_Law_readLevel_37 {d : Nat} {x1 : Int32} {x2 : Int32} {x3 : Int32} {y1 : Int32} {y0 : Int32} {h : am_H} {Q : am_Q} (k : m_Law_operatorOf d [.int y0, .int y1] h (fun r hh => am_W (X_Law_readLevel (d + 1)) 40 [some (.ref 6), some (.int x1), some (.int x2), some (.int x3), none] (r.toList ++ []) hh Q)) : am_W (X_Law_readLevel (d + 1)) 37 [some (.ref 6), some (.int x1), some (.int x2), some (.int x3), none] [.int y1, .int y0] h Q :=
  am_callS (vs := [.int y0, .int y1]) (st := []) rfl d_Law_readLevel_37 w_657 w_658 w_86 w_659 p_Law_operatorOf (Nat.le_of_ble_eq_true rfl) (Nat.le_of_ble_eq_true rfl) rfl k
theorem b_Law_readLevel_40 {d : Nat} {x1 : Int32} {x2 : Int32} {x3 : Int32} {y0 : Int32} {h : am_H} {Q : am_Q} (kt : ¬ y0 = 0 → am_W (X_Law_readLevel d) 49 [some (.ref 6), some (.int x1), some (.int x2), some (.int x3), some (.int y0)] [] h Q) (kf : y0 = 0 → am_W (X_Law_readLevel d) 47 [some (.ref 6), some (.int x1), some (.int x2), some (.int x3), some (.int y0)] [] h Q) : am_W (X_Law_readLevel d) 40 [some (.ref 6), some (.int x1), some (.int x2), some (.int x3), none] [.int y0] h Q :=
  am_istore (ls' := [some (.ref 6), some (.int x1), some (.int x2), some (.int x3), some (.int y0)]) d_Law_readLevel_40 (Nat.le_of_ble_eq_true rfl) rfl <|
    am_iload d_Law_readLevel_42 rfl <|
    am_if_ne (tgt := 49) d_Law_readLevel_44 (by decide) kt kf
theorem b_Law_readLevel_47 {d : Nat} {x1 : Int32} {x2 : Int32} {x3 : Int32} {x4 : Int32} {h : am_H} {Q : am_Q} (q : Q (some (.int 1)) h) : am_W (X_Law_readLevel d) 47 [some (.ref 6), some (.int x1), some (.int x2), some (.int x3), some (.int x4)] [] h Q :=
  am_iconst (v := 1) d_Law_readLevel_47 (by decide) <|
    am_zret (ty := .boolean) rfl (by decide) d_Law_readLevel_48 q
theorem b_Law_readLevel_49 {d : Nat} {x1 : Int32} {x2 : Int32} {x3 : Int32} {x4 : Int32} {h : am_H} {Q : am_Q} (k : m_Law_readLevel d [.ref 6, .int (x1 + 1), .int x2] (am_pI h 6 6 ((h.1 6 6) + 1)) (fun r hh => am_W (X_Law_readLevel (d + 1)) 67 [some (.ref 6), some (.int x1), some (.int x2), some (.int x3), some (.int x4)] (r.toList ++ []) hh Q)) : am_W (X_Law_readLevel (d + 1)) 49 [some (.ref 6), some (.int x1), some (.int x2), some (.int x3), some (.int x4)] [] h Q :=
  am_aload_n d_Law_readLevel_49 rfl (i := 0) rfl <|
    am_dupR d_Law_readLevel_50 <|
    am_getI (ci := 2) (i := 6) rfl rfl rfl (Nat.le_of_ble_eq_true rfl) w_166 d_Law_readLevel_51 <|
    am_iconst (v := 1) d_Law_readLevel_54 (by decide) <|
    am_iadd d_Law_readLevel_55 <|
    am_putI (ci := 2) (i := 6) rfl rfl rfl (Nat.le_of_ble_eq_true rfl) w_166 rfl rfl rfl d_Law_readLevel_56 <|
    am_aload_n d_Law_readLevel_59 rfl (i := 0) rfl <|
    am_iload_n d_Law_readLevel_60 rfl (i := 1) rfl <|
    am_iconst (v := 1) d_Law_readLevel_61 (by decide) <|
    am_iadd d_Law_readLevel_62 <|
    am_iload_n d_Law_readLevel_63 rfl (i := 2) rfl <|
    am_callV (vs := [.int (x1 + 1), .int x2]) (st := []) (k := 6) (ci := 2) rfl d_Law_readLevel_64 rfl rfl w_541 w_543 w_6 w_86 w_544 p_Law_readLevel (Nat.le_of_ble_eq_true rfl) (Nat.le_of_ble_eq_true rfl) rfl k
theorem b_Law_readLevel_67 {d : Nat} {x1 : Int32} {x2 : Int32} {x3 : Int32} {x4 : Int32} {y0 : Bool} {h : am_H} {Q : am_Q} (kt : ¬ (am_b y0) = 0 → am_W (X_Law_readLevel d) 72 [some (.ref 6), some (.int x1), some (.int x2), some (.int x3), some (.int x4)] [] h Q) (kf : (am_b y0) = 0 → am_W (X_Law_readLevel d) 70 [some (.ref 6), some (.int x1), some (.int x2), some (.int x3), some (.int x4)] [] h Q) : am_W (X_Law_readLevel d) 67 [some (.ref 6), some (.int x1), some (.int x2), some (.int x3), some (.int x4)] [.int (am_b y0)] h Q :=
  am_if_ne (tgt := 72) d_Law_readLevel_67 (by decide) kt kf
theorem b_Law_readLevel_70 {d : Nat} {x1 : Int32} {x2 : Int32} {x3 : Int32} {x4 : Int32} {h : am_H} {Q : am_Q} (q : Q (some (.int 0)) h) : am_W (X_Law_readLevel d) 70 [some (.ref 6), some (.int x1), some (.int x2), some (.int x3), some (.int x4)] [] h Q :=
  am_iconst (v := 0) d_Law_readLevel_70 (by decide) <|
    am_zret (ty := .boolean) rfl (by decide) d_Law_readLevel_71 q
theorem b_Law_readLevel_72 {d : Nat} {x1 : Int32} {x2 : Int32} {x3 : Int32} {x4 : Int32} {h : am_H} {Q : am_Q} (k : m_Law_write d [.ref 6, .int x4] h (fun r hh => am_W (X_Law_readLevel (d + 1)) 78 [some (.ref 6), some (.int x1), some (.int x2), some (.int x3), some (.int x4)] (r.toList ++ []) hh Q)) : am_W (X_Law_readLevel (d + 1)) 72 [some (.ref 6), some (.int x1), some (.int x2), some (.int x3), some (.int x4)] [] h Q :=
  am_aload_n d_Law_readLevel_72 rfl (i := 0) rfl <|
    am_iload d_Law_readLevel_73 rfl <|
    am_callV (vs := [.int x4]) (st := []) (k := 6) (ci := 2) rfl d_Law_readLevel_75 rfl rfl w_560 w_562 w_10 w_86 w_563 p_Law_write (Nat.le_of_ble_eq_true rfl) (Nat.le_of_ble_eq_true rfl) rfl k
theorem b_Law_readLevel_78 {d : Nat} {x1 : Int32} {x2 : Int32} {x3 : Int32} {x4 : Int32} {h : am_H} {Q : am_Q} (kt : ¬ x1 = 2 → am_W (X_Law_readLevel d) 85 [some (.ref 6), some (.int x1), some (.int x2), some (.int x3), some (.int x4)] [] h Q) (kf : x1 = 2 → am_W (X_Law_readLevel d) 83 [some (.ref 6), some (.int x1), some (.int x2), some (.int x3), some (.int x4)] [] h Q) : am_W (X_Law_readLevel d) 78 [some (.ref 6), some (.int x1), some (.int x2), some (.int x3), some (.int x4)] [] h Q :=
  am_iload_n d_Law_readLevel_78 rfl (i := 1) rfl <|
    am_iconst (v := 2) d_Law_readLevel_79 (by decide) <|
    am_icmp_ne (tgt := 85) d_Law_readLevel_80 (by decide) kt kf
theorem b_Law_readLevel_83 {d : Nat} {x1 : Int32} {x2 : Int32} {x3 : Int32} {x4 : Int32} {h : am_H} {Q : am_Q} (q : Q (some (.int 1)) h) : am_W (X_Law_readLevel d) 83 [some (.ref 6), some (.int x1), some (.int x2), some (.int x3), some (.int x4)] [] h Q :=
  am_iconst (v := 1) d_Law_readLevel_83 (by decide) <|
    am_zret (ty := .boolean) rfl (by decide) d_Law_readLevel_84 q
theorem b_Law_readLevel_85 {d : Nat} {x1 : Int32} {x2 : Int32} {x3 : Int32} {x4 : Int32} {h : am_H} {Q : am_Q} (k : am_W (X_Law_readLevel d) 26 [some (.ref 6), some (.int x1), some (.int x2), some (.int (x3 + 1)), some (.int x4)] [] h Q) : am_W (X_Law_readLevel d) 85 [some (.ref 6), some (.int x1), some (.int x2), some (.int x3), some (.int x4)] [] h Q :=
  am_iinc (v := (x3 + 1)) (ls' := [some (.ref 6), some (.int x1), some (.int x2), some (.int (x3 + 1)), some (.int x4)]) d_Law_readLevel_85 rfl rfl (Nat.le_of_ble_eq_true rfl) rfl <|
    am_goto (tgt := 26) d_Law_readLevel_88 (by decide) k
theorem b_Law_readLevel_91 {d : Nat} {x1 : Int32} {x2 : Int32} {x3 : Int32} {h : am_H} {Q : am_Q} (q : Q (some (.int 1)) h) : am_W (X_Law_readLevel d) 91 [some (.ref 6), some (.int x1), some (.int x2), some (.int x3), none] [] h Q :=
  am_iconst (v := 1) d_Law_readLevel_91 (by decide) <|
    am_zret (ty := .boolean) rfl (by decide) d_Law_readLevel_92 q
theorem d_Law_readOperand_0 : decode prog_6_method_11_code 0 = .ok (.aload_n 0, 1) := by decide +kernel
theorem d_Law_readOperand_1 : decode prog_6_method_11_code 1 = .ok (.invokevirtual 53, 3) := by decide +kernel
theorem d_Law_readOperand_4 : decode prog_6_method_11_code 4 = .ok (.istore_n 2, 1) := by decide +kernel
theorem d_Law_readOperand_5 : decode prog_6_method_11_code 5 = .ok (.iload_n 2, 1) := by decide +kernel
theorem d_Law_readOperand_6 : decode prog_6_method_11_code 6 = .ok (.invokestatic 73, 3) := by decide +kernel
theorem d_Law_readOperand_9 : decode prog_6_method_11_code 9 = .ok (.ifCond .eq 8, 3) := by decide +kernel
theorem d_Law_readOperand_12 : decode prog_6_method_11_code 12 = .ok (.aload_n 0, 1) := by decide +kernel
theorem d_Law_readOperand_13 : decode prog_6_method_11_code 13 = .ok (.invokevirtual 76, 3) := by decide +kernel
theorem d_Law_readOperand_16 : decode prog_6_method_11_code 16 = .ok (.ireturn, 1) := by decide +kernel
theorem d_Law_readOperand_17 : decode prog_6_method_11_code 17 = .ok (.iload_n 2, 1) := by decide +kernel
theorem d_Law_readOperand_18 : decode prog_6_method_11_code 18 = .ok (.ifCond .ge 7, 3) := by decide +kernel
theorem d_Law_readOperand_21 : decode prog_6_method_11_code 21 = .ok (.iconst (-1), 1) := by decide +kernel
theorem d_Law_readOperand_22 : decode prog_6_method_11_code 22 = .ok (.goto 10, 3) := by decide +kernel
theorem d_Law_readOperand_25 : decode prog_6_method_11_code 25 = .ok (.ldc 79, 2) := by decide +kernel
theorem d_Law_readOperand_27 : decode prog_6_method_11_code 27 = .ok (.iload_n 2, 1) := by decide +kernel
theorem d_Law_readOperand_28 : decode prog_6_method_11_code 28 = .ok (.i2c, 1) := by decide +kernel
theorem d_Law_readOperand_29 : decode prog_6_method_11_code 29 = .ok (.invokevirtual 81, 3) := by decide +kernel
theorem d_Law_readOperand_32 : decode prog_6_method_11_code 32 = .ok (.istore_n 3, 1) := by decide +kernel
theorem d_Law_readOperand_33 : decode prog_6_method_11_code 33 = .ok (.iload_n 3, 1) := by decide +kernel
theorem d_Law_readOperand_34 : decode prog_6_method_11_code 34 = .ok (.ifCond .lt 22, 3) := by decide +kernel
theorem d_Law_readOperand_37 : decode prog_6_method_11_code 37 = .ok (.aload_n 0, 1) := by decide +kernel
theorem d_Law_readOperand_38 : decode prog_6_method_11_code 38 = .ok (.dup, 1) := by decide +kernel
theorem d_Law_readOperand_39 : decode prog_6_method_11_code 39 = .ok (.getfield 31, 3) := by decide +kernel
theorem d_Law_readOperand_42 : decode prog_6_method_11_code 42 = .ok (.iconst 1, 1) := by decide +kernel
theorem d_Law_readOperand_43 : decode prog_6_method_11_code 43 = .ok (.iadd, 1) := by decide +kernel
theorem d_Law_readOperand_44 : decode prog_6_method_11_code 44 = .ok (.putfield 31, 3) := by decide +kernel
theorem d_Law_readOperand_47 : decode prog_6_method_11_code 47 = .ok (.aload_n 0, 1) := by decide +kernel
theorem d_Law_readOperand_48 : decode prog_6_method_11_code 48 = .ok (.iconst (-1), 1) := by decide +kernel
theorem d_Law_readOperand_49 : decode prog_6_method_11_code 49 = .ok (.iload_n 3, 1) := by decide +kernel
theorem d_Law_readOperand_50 : decode prog_6_method_11_code 50 = .ok (.isub, 1) := by decide +kernel
theorem d_Law_readOperand_51 : decode prog_6_method_11_code 51 = .ok (.invokevirtual 61, 3) := by decide +kernel
theorem d_Law_readOperand_54 : decode prog_6_method_11_code 54 = .ok (.iconst 1, 1) := by decide +kernel
theorem d_Law_readOperand_55 : decode prog_6_method_11_code 55 = .ok (.ireturn, 1) := by decide +kernel
theorem d_Law_readOperand_56 : decode prog_6_method_11_code 56 = .ok (.iload_n 1, 1) := by decide +kernel
theorem d_Law_readOperand_57 : decode prog_6_method_11_code 57 = .ok (.bipush 6, 2) := by decide +kernel
theorem d_Law_readOperand_59 : decode prog_6_method_11_code 59 = .ok (.if_icmp .ge 21, 3) := by decide +kernel
theorem d_Law_readOperand_62 : decode prog_6_method_11_code 62 = .ok (.iload_n 2, 1) := by decide +kernel
theorem d_Law_readOperand_63 : decode prog_6_method_11_code 63 = .ok (.bipush 33, 2) := by decide +kernel
theorem d_Law_readOperand_65 : decode prog_6_method_11_code 65 = .ok (.if_icmp .eq 17, 3) := by decide +kernel
theorem d_Law_readOperand_68 : decode prog_6_method_11_code 68 = .ok (.iload_n 2, 1) := by decide +kernel
theorem d_Law_readOperand_69 : decode prog_6_method_11_code 69 = .ok (.bipush 45, 2) := by decide +kernel
theorem d_Law_readOperand_71 : decode prog_6_method_11_code 71 = .ok (.if_icmp .eq 11, 3) := by decide +kernel
theorem d_Law_readOperand_74 : decode prog_6_method_11_code 74 = .ok (.iload_n 2, 1) := by decide +kernel
theorem d_Law_readOperand_75 : decode prog_6_method_11_code 75 = .ok (.bipush 40, 2) := by decide +kernel
theorem d_Law_readOperand_77 : decode prog_6_method_11_code 77 = .ok (.if_icmp .eq 5, 3) := by decide +kernel
theorem d_Law_readOperand_80 : decode prog_6_method_11_code 80 = .ok (.iconst 0, 1) := by decide +kernel
theorem d_Law_readOperand_81 : decode prog_6_method_11_code 81 = .ok (.ireturn, 1) := by decide +kernel
theorem d_Law_readOperand_82 : decode prog_6_method_11_code 82 = .ok (.aload_n 0, 1) := by decide +kernel
theorem d_Law_readOperand_83 : decode prog_6_method_11_code 83 = .ok (.dup, 1) := by decide +kernel
theorem d_Law_readOperand_84 : decode prog_6_method_11_code 84 = .ok (.getfield 31, 3) := by decide +kernel
theorem d_Law_readOperand_87 : decode prog_6_method_11_code 87 = .ok (.iconst 1, 1) := by decide +kernel
theorem d_Law_readOperand_88 : decode prog_6_method_11_code 88 = .ok (.iadd, 1) := by decide +kernel
theorem d_Law_readOperand_89 : decode prog_6_method_11_code 89 = .ok (.putfield 31, 3) := by decide +kernel
theorem d_Law_readOperand_92 : decode prog_6_method_11_code 92 = .ok (.iload_n 2, 1) := by decide +kernel
theorem d_Law_readOperand_93 : decode prog_6_method_11_code 93 = .ok (.bipush 40, 2) := by decide +kernel
theorem d_Law_readOperand_95 : decode prog_6_method_11_code 95 = .ok (.if_icmp .ne 13, 3) := by decide +kernel
theorem d_Law_readOperand_98 : decode prog_6_method_11_code 98 = .ok (.aload_n 0, 1) := by decide +kernel
theorem d_Law_readOperand_99 : decode prog_6_method_11_code 99 = .ok (.iload_n 1, 1) := by decide +kernel
theorem d_Law_readOperand_100 : decode prog_6_method_11_code 100 = .ok (.iconst 1, 1) := by decide +kernel
theorem d_Law_readOperand_101 : decode prog_6_method_11_code 101 = .ok (.iadd, 1) := by decide +kernel
theorem d_Law_readOperand_102 : decode prog_6_method_11_code 102 = .ok (.invokevirtual 87, 3) := by decide +kernel
theorem d_Law_readOperand_105 : decode prog_6_method_11_code 105 = .ok (.goto 11, 3) := by decide +kernel
theorem d_Law_readOperand_108 : decode prog_6_method_11_code 108 = .ok (.aload_n 0, 1) := by decide +kernel
theorem d_Law_readOperand_109 : decode prog_6_method_11_code 109 = .ok (.iload_n 2, 1) := by decide +kernel
theorem d_Law_readOperand_110 : decode prog_6_method_11_code 110 = .ok (.iload_n 1, 1) := by decide +kernel
theorem d_Law_readOperand_111 : decode prog_6_method_11_code 111 = .ok (.iconst 1, 1) := by decide +kernel
theorem d_Law_readOperand_112 : decode prog_6_method_11_code 112 = .ok (.iadd, 1) := by decide +kernel
theorem d_Law_readOperand_113 : decode prog_6_method_11_code 113 = .ok (.invokevirtual 90, 3) := by decide +kernel
theorem d_Law_readOperand_116 : decode prog_6_method_11_code 116 = .ok (.ireturn, 1) := by decide +kernel
theorem b_Law_readOperand_0 {d : Nat} {x1 : Int32} {h : am_H} {Q : am_Q} (k : m_Law_next d [.ref 6] h (fun r hh => am_W (X_Law_readOperand (d + 1)) 4 [some (.ref 6), some (.int x1), none, none] (r.toList ++ []) hh Q)) : am_W (X_Law_readOperand (d + 1)) 0 [some (.ref 6), some (.int x1), none, none] [] h Q :=
  am_aload_n d_Law_readOperand_0 rfl (i := 0) rfl <|
    am_callV (vs := []) (st := []) (k := 6) (ci := 2) rfl d_Law_readOperand_1 rfl rfl w_549 w_551 w_8 w_86 w_552 p_Law_next (Nat.le_of_ble_eq_true rfl) (Nat.le_of_ble_eq_true rfl) rfl k
theorem b_Law_readOperand_4 {d : Nat} {x1 : Int32} {y0 : Int32} {h : am_H} {Q : am_Q} (k : m_Law_isDigit d [.int y0] h (fun r hh => am_W (X_Law_readOperand (d + 1)) 9 [some (.ref 6), some (.int x1), some (.int y0), none] (r.toList ++ []) hh Q)) : am_W (X_Law_readOperand (d + 1)) 4 [some (.ref 6), some (.int x1), none, none] [.int y0] h Q :=
  am_istore_n (ls' := [some (.ref 6), some (.int x1), some (.int y0), none]) d_Law_readOperand_4 rfl (Nat.le_of_ble_eq_true rfl) rfl <|
    am_iload_n d_Law_readOperand_5 rfl (i := 2) rfl <|
    am_callS (vs := [.int y0]) (st := []) rfl d_Law_readOperand_6 w_553 w_554 w_86 w_555 p_Law_isDigit (Nat.le_of_ble_eq_true rfl) (Nat.le_of_ble_eq_true rfl) rfl k
theorem b_Law_readOperand_9 {d : Nat} {x1 : Int32} {x2 : Int32} {y0 : Bool} {h : am_H} {Q : am_Q} (kt : (am_b y0) = 0 → am_W (X_Law_readOperand d) 17 [some (.ref 6), some (.int x1), some (.int x2), none] [] h Q) (kf : ¬ (am_b y0) = 0 → am_W (X_Law_readOperand d) 12 [some (.ref 6), some (.int x1), some (.int x2), none] [] h Q) : am_W (X_Law_readOperand d) 9 [some (.ref 6), some (.int x1), some (.int x2), none] [.int (am_b y0)] h Q :=
  am_if_eq (tgt := 17) d_Law_readOperand_9 (by decide) kt kf
theorem b_Law_readOperand_12 {d : Nat} {x1 : Int32} {x2 : Int32} {h : am_H} {Q : am_Q} (k : m_Law_readNumber d [.ref 6] h (fun r hh => am_W (X_Law_readOperand (d + 1)) 16 [some (.ref 6), some (.int x1), some (.int x2), none] (r.toList ++ []) hh Q)) : am_W (X_Law_readOperand (d + 1)) 12 [some (.ref 6), some (.int x1), some (.int x2), none] [] h Q :=
  am_aload_n d_Law_readOperand_12 rfl (i := 0) rfl <|
    am_callV (vs := []) (st := []) (k := 6) (ci := 2) rfl d_Law_readOperand_13 rfl rfl w_556 w_558 w_9 w_86 w_559 p_Law_readNumber (Nat.le_of_ble_eq_true rfl) (Nat.le_of_ble_eq_true rfl) rfl k
theorem b_Law_readOperand_16 {d : Nat} {x1 : Int32} {x2 : Int32} {y0 : Bool} {h : am_H} {Q : am_Q} (q : Q (some (.int (am_b y0))) h) : am_W (X_Law_readOperand d) 16 [some (.ref 6), some (.int x1), some (.int x2), none] [.int (am_b y0)] h Q :=
  am_zret (ty := .boolean) rfl am_nb d_Law_readOperand_16 q
theorem b_Law_readOperand_17 {d : Nat} {x1 : Int32} {x2 : Int32} {h : am_H} {Q : am_Q} (kt : 0 ≤ x2 → am_W (X_Law_readOperand d) 25 [some (.ref 6), some (.int x1), some (.int x2), none] [] h Q) (kf : ¬ 0 ≤ x2 → am_W (X_Law_readOperand d) 21 [some (.ref 6), some (.int x1), some (.int x2), none] [] h Q) : am_W (X_Law_readOperand d) 17 [some (.ref 6), some (.int x1), some (.int x2), none] [] h Q :=
  am_iload_n d_Law_readOperand_17 rfl (i := 2) rfl <|
    am_if_ge (tgt := 25) d_Law_readOperand_18 (by decide) kt kf
theorem b_Law_readOperand_21 {d : Nat} {x1 : Int32} {x2 : Int32} {h : am_H} {Q : am_Q} (k : am_W (X_Law_readOperand d) 32 [some (.ref 6), some (.int x1), some (.int x2), none] [.int (-1)] h Q) : am_W (X_Law_readOperand d) 21 [some (.ref 6), some (.int x1), some (.int x2), none] [] h Q :=
  am_iconst (v := (-1)) d_Law_readOperand_21 (by decide) <|
    am_goto (tgt := 32) d_Law_readOperand_22 (by decide) k
theorem b_Law_readOperand_25 {d : Nat} {x1 : Int32} {x2 : Int32} {h : am_H} {Q : am_Q} (k : m_Str_indexOf_I d [.ref 106, .int ((x2.toUInt32 % 65536).toInt32)] h (fun r hh => am_W (X_Law_readOperand (d + 1)) 32 [some (.ref 6), some (.int x1), some (.int x2), none] (r.toList ++ []) hh Q)) : am_W (X_Law_readOperand (d + 1)) 25 [some (.ref 6), some (.int x1), some (.int x2), none] [] h Q :=
  am_ldcS rfl d_Law_readOperand_25 <|
    am_iload_n d_Law_readOperand_27 rfl (i := 2) rfl <|
    am_i2c d_Law_readOperand_28 <|
    am_callVS (vs := [.int ((x2.toUInt32 % 65536).toInt32)]) (st := []) rfl d_Law_readOperand_29 rfl w_565 w_566 w_567 w_97 w_568 p_Str_indexOf_I (Nat.le_of_ble_eq_true rfl) (Nat.le_of_ble_eq_true rfl) rfl k
theorem b_Law_readOperand_32 {d : Nat} {x1 : Int32} {x2 : Int32} {y0 : Int32} {h : am_H} {Q : am_Q} (kt : y0 < 0 → am_W (X_Law_readOperand d) 56 [some (.ref 6), some (.int x1), some (.int x2), some (.int y0)] [] h Q) (kf : ¬ y0 < 0 → am_W (X_Law_readOperand d) 37 [some (.ref 6), some (.int x1), some (.int x2), some (.int y0)] [] h Q) : am_W (X_Law_readOperand d) 32 [some (.ref 6), some (.int x1), some (.int x2), none] [.int y0] h Q :=
  am_istore_n (ls' := [some (.ref 6), some (.int x1), some (.int x2), some (.int y0)]) d_Law_readOperand_32 rfl (Nat.le_of_ble_eq_true rfl) rfl <|
    am_iload_n d_Law_readOperand_33 rfl (i := 3) rfl <|
    am_if_lt (tgt := 56) d_Law_readOperand_34 (by decide) kt kf
theorem b_Law_readOperand_37 {d : Nat} {x1 : Int32} {x2 : Int32} {x3 : Int32} {h : am_H} {Q : am_Q} (k : m_Law_write d [.ref 6, .int ((-1) - x3)] (am_pI h 6 6 ((h.1 6 6) + 1)) (fun r hh => am_W (X_Law_readOperand (d + 1)) 54 [some (.ref 6), some (.int x1), some (.int x2), some (.int x3)] (r.toList ++ []) hh Q)) : am_W (X_Law_readOperand (d + 1)) 37 [some (.ref 6), some (.int x1), some (.int x2), some (.int x3)] [] h Q :=
  am_aload_n d_Law_readOperand_37 rfl (i := 0) rfl <|
    am_dupR d_Law_readOperand_38 <|
    am_getI (ci := 2) (i := 6) rfl rfl rfl (Nat.le_of_ble_eq_true rfl) w_166 d_Law_readOperand_39 <|
    am_iconst (v := 1) d_Law_readOperand_42 (by decide) <|
    am_iadd d_Law_readOperand_43 <|
    am_putI (ci := 2) (i := 6) rfl rfl rfl (Nat.le_of_ble_eq_true rfl) w_166 rfl rfl rfl d_Law_readOperand_44 <|
    am_aload_n d_Law_readOperand_47 rfl (i := 0) rfl <|
    am_iconst (v := (-1)) d_Law_readOperand_48 (by decide) <|
    am_iload_n d_Law_readOperand_49 rfl (i := 3) rfl <|
    am_isub d_Law_readOperand_50 <|
    am_callV (vs := [.int ((-1) - x3)]) (st := []) (k := 6) (ci := 2) rfl d_Law_readOperand_51 rfl rfl w_560 w_562 w_10 w_86 w_563 p_Law_write (Nat.le_of_ble_eq_true rfl) (Nat.le_of_ble_eq_true rfl) rfl k
theorem b_Law_readOperand_54 {d : Nat} {x1 : Int32} {x2 : Int32} {x3 : Int32} {h : am_H} {Q : am_Q} (q : Q (some (.int 1)) h) : am_W (X_Law_readOperand d) 54 [some (.ref 6), some (.int x1), some (.int x2), some (.int x3)] [] h Q :=
  am_iconst (v := 1) d_Law_readOperand_54 (by decide) <|
    am_zret (ty := .boolean) rfl (by decide) d_Law_readOperand_55 q
theorem b_Law_readOperand_56 {d : Nat} {x1 : Int32} {x2 : Int32} {x3 : Int32} {h : am_H} {Q : am_Q} (kt : 6 ≤ x1 → am_W (X_Law_readOperand d) 80 [some (.ref 6), some (.int x1), some (.int x2), some (.int x3)] [] h Q) (kf : ¬ 6 ≤ x1 → am_W (X_Law_readOperand d) 62 [some (.ref 6), some (.int x1), some (.int x2), some (.int x3)] [] h Q) : am_W (X_Law_readOperand d) 56 [some (.ref 6), some (.int x1), some (.int x2), some (.int x3)] [] h Q :=
  am_iload_n d_Law_readOperand_56 rfl (i := 1) rfl <|
    am_bipush (v := 6) d_Law_readOperand_57 (by decide) <|
    am_icmp_ge (tgt := 80) d_Law_readOperand_59 (by decide) kt kf
theorem b_Law_readOperand_62 {d : Nat} {x1 : Int32} {x2 : Int32} {x3 : Int32} {h : am_H} {Q : am_Q} (kt : x2 = 33 → am_W (X_Law_readOperand d) 82 [some (.ref 6), some (.int x1), some (.int x2), some (.int x3)] [] h Q) (kf : ¬ x2 = 33 → am_W (X_Law_readOperand d) 68 [some (.ref 6), some (.int x1), some (.int x2), some (.int x3)] [] h Q) : am_W (X_Law_readOperand d) 62 [some (.ref 6), some (.int x1), some (.int x2), some (.int x3)] [] h Q :=
  am_iload_n d_Law_readOperand_62 rfl (i := 2) rfl <|
    am_bipush (v := 33) d_Law_readOperand_63 (by decide) <|
    am_icmp_eq (tgt := 82) d_Law_readOperand_65 (by decide) kt kf
theorem b_Law_readOperand_68 {d : Nat} {x1 : Int32} {x2 : Int32} {x3 : Int32} {h : am_H} {Q : am_Q} (kt : x2 = 45 → am_W (X_Law_readOperand d) 82 [some (.ref 6), some (.int x1), some (.int x2), some (.int x3)] [] h Q) (kf : ¬ x2 = 45 → am_W (X_Law_readOperand d) 74 [some (.ref 6), some (.int x1), some (.int x2), some (.int x3)] [] h Q) : am_W (X_Law_readOperand d) 68 [some (.ref 6), some (.int x1), some (.int x2), some (.int x3)] [] h Q :=
  am_iload_n d_Law_readOperand_68 rfl (i := 2) rfl <|
    am_bipush (v := 45) d_Law_readOperand_69 (by decide) <|
    am_icmp_eq (tgt := 82) d_Law_readOperand_71 (by decide) kt kf
theorem b_Law_readOperand_74 {d : Nat} {x1 : Int32} {x2 : Int32} {x3 : Int32} {h : am_H} {Q : am_Q} (kt : x2 = 40 → am_W (X_Law_readOperand d) 82 [some (.ref 6), some (.int x1), some (.int x2), some (.int x3)] [] h Q) (kf : ¬ x2 = 40 → am_W (X_Law_readOperand d) 80 [some (.ref 6), some (.int x1), some (.int x2), some (.int x3)] [] h Q) : am_W (X_Law_readOperand d) 74 [some (.ref 6), some (.int x1), some (.int x2), some (.int x3)] [] h Q :=
  am_iload_n d_Law_readOperand_74 rfl (i := 2) rfl <|
    am_bipush (v := 40) d_Law_readOperand_75 (by decide) <|
    am_icmp_eq (tgt := 82) d_Law_readOperand_77 (by decide) kt kf
theorem b_Law_readOperand_80 {d : Nat} {x1 : Int32} {x2 : Int32} {x3 : Int32} {h : am_H} {Q : am_Q} (q : Q (some (.int 0)) h) : am_W (X_Law_readOperand d) 80 [some (.ref 6), some (.int x1), some (.int x2), some (.int x3)] [] h Q :=
  am_iconst (v := 0) d_Law_readOperand_80 (by decide) <|
    am_zret (ty := .boolean) rfl (by decide) d_Law_readOperand_81 q
theorem b_Law_readOperand_82 {d : Nat} {x1 : Int32} {x2 : Int32} {x3 : Int32} {h : am_H} {Q : am_Q} (kt : ¬ x2 = 40 → am_W (X_Law_readOperand d) 108 [some (.ref 6), some (.int x1), some (.int x2), some (.int x3)] [] (am_pI h 6 6 ((h.1 6 6) + 1)) Q) (kf : x2 = 40 → am_W (X_Law_readOperand d) 98 [some (.ref 6), some (.int x1), some (.int x2), some (.int x3)] [] (am_pI h 6 6 ((h.1 6 6) + 1)) Q) : am_W (X_Law_readOperand d) 82 [some (.ref 6), some (.int x1), some (.int x2), some (.int x3)] [] h Q :=
  am_aload_n d_Law_readOperand_82 rfl (i := 0) rfl <|
    am_dupR d_Law_readOperand_83 <|
    am_getI (ci := 2) (i := 6) rfl rfl rfl (Nat.le_of_ble_eq_true rfl) w_166 d_Law_readOperand_84 <|
    am_iconst (v := 1) d_Law_readOperand_87 (by decide) <|
    am_iadd d_Law_readOperand_88 <|
    am_putI (ci := 2) (i := 6) rfl rfl rfl (Nat.le_of_ble_eq_true rfl) w_166 rfl rfl rfl d_Law_readOperand_89 <|
    am_iload_n d_Law_readOperand_92 rfl (i := 2) rfl <|
    am_bipush (v := 40) d_Law_readOperand_93 (by decide) <|
    am_icmp_ne (tgt := 108) d_Law_readOperand_95 (by decide) kt kf
theorem b_Law_readOperand_98 {d : Nat} {x1 : Int32} {x2 : Int32} {x3 : Int32} {h : am_H} {Q : am_Q} (k : m_Law_readBracket d [.ref 6, .int (x1 + 1)] h (fun r hh => am_W (X_Law_readOperand (d + 1)) 105 [some (.ref 6), some (.int x1), some (.int x2), some (.int x3)] (r.toList ++ []) hh Q)) : am_W (X_Law_readOperand (d + 1)) 98 [some (.ref 6), some (.int x1), some (.int x2), some (.int x3)] [] h Q :=
  am_aload_n d_Law_readOperand_98 rfl (i := 0) rfl <|
    am_iload_n d_Law_readOperand_99 rfl (i := 1) rfl <|
    am_iconst (v := 1) d_Law_readOperand_100 (by decide) <|
    am_iadd d_Law_readOperand_101 <|
    am_callV (vs := [.int (x1 + 1)]) (st := []) (k := 6) (ci := 2) rfl d_Law_readOperand_102 rfl rfl w_649 w_651 w_11 w_86 w_652 p_Law_readBracket (Nat.le_of_ble_eq_true rfl) (Nat.le_of_ble_eq_true rfl) rfl k
theorem b_Law_readOperand_105 {d : Nat} {x1 : Int32} {x2 : Int32} {x3 : Int32} {y0 : Bool} {h : am_H} {Q : am_Q} (q : Q (some (.int (am_b y0))) h) : am_W (X_Law_readOperand d) 105 [some (.ref 6), some (.int x1), some (.int x2), some (.int x3)] [.int (am_b y0)] h Q :=
  am_goto (tgt := 116) d_Law_readOperand_105 (by decide) <|
    am_zret (ty := .boolean) rfl am_nb d_Law_readOperand_116 q
theorem b_Law_readOperand_108 {d : Nat} {x1 : Int32} {x2 : Int32} {x3 : Int32} {h : am_H} {Q : am_Q} (k : m_Law_readPrefixed d [.ref 6, .int x2, .int (x1 + 1)] h (fun r hh => am_W (X_Law_readOperand (d + 1)) 116 [some (.ref 6), some (.int x1), some (.int x2), some (.int x3)] (r.toList ++ []) hh Q)) : am_W (X_Law_readOperand (d + 1)) 108 [some (.ref 6), some (.int x1), some (.int x2), some (.int x3)] [] h Q :=
  am_aload_n d_Law_readOperand_108 rfl (i := 0) rfl <|
    am_iload_n d_Law_readOperand_109 rfl (i := 2) rfl <|
    am_iload_n d_Law_readOperand_110 rfl (i := 1) rfl <|
    am_iconst (v := 1) d_Law_readOperand_111 (by decide) <|
    am_iadd d_Law_readOperand_112 <|
    am_callV (vs := [.int x2, .int (x1 + 1)]) (st := []) (k := 6) (ci := 2) rfl d_Law_readOperand_113 rfl rfl w_653 w_655 w_12 w_86 w_656 p_Law_readPrefixed (Nat.le_of_ble_eq_true rfl) (Nat.le_of_ble_eq_true rfl) rfl k
theorem b_Law_readOperand_116 {d : Nat} {x1 : Int32} {x2 : Int32} {x3 : Int32} {y0 : Bool} {h : am_H} {Q : am_Q} (q : Q (some (.int (am_b y0))) h) : am_W (X_Law_readOperand d) 116 [some (.ref 6), some (.int x1), some (.int x2), some (.int x3)] [.int (am_b y0)] h Q :=
  am_zret (ty := .boolean) rfl am_nb d_Law_readOperand_116 q
theorem d_Law_readPrefixed_0 : decode prog_6_method_12_code 0 = .ok (.aload_n 0, 1) := by decide +kernel
theorem d_Law_readPrefixed_1 : decode prog_6_method_12_code 1 = .ok (.iload_n 2, 1) := by decide +kernel
theorem d_Law_readPrefixed_2 : decode prog_6_method_12_code 2 = .ok (.invokevirtual 65, 3) := by decide +kernel
theorem d_Law_readPrefixed_5 : decode prog_6_method_12_code 5 = .ok (.ifCond .ne 5, 3) := by decide +kernel
theorem d_Law_readPrefixed_8 : decode prog_6_method_12_code 8 = .ok (.iconst 0, 1) := by decide +kernel
theorem d_Law_readPrefixed_9 : decode prog_6_method_12_code 9 = .ok (.ireturn, 1) := by decide +kernel
theorem d_Law_readPrefixed_10 : decode prog_6_method_12_code 10 = .ok (.aload_n 0, 1) := by decide +kernel
theorem d_Law_readPrefixed_11 : decode prog_6_method_12_code 11 = .ok (.iload_n 1, 1) := by decide +kernel
theorem d_Law_readPrefixed_12 : decode prog_6_method_12_code 12 = .ok (.bipush 33, 2) := by decide +kernel
theorem d_Law_readPrefixed_14 : decode prog_6_method_12_code 14 = .ok (.if_icmp .ne 8, 3) := by decide +kernel
theorem d_Law_readPrefixed_17 : decode prog_6_method_12_code 17 = .ok (.bipush (-21), 2) := by decide +kernel
theorem d_Law_readPrefixed_19 : decode prog_6_method_12_code 19 = .ok (.goto 5, 3) := by decide +kernel
theorem d_Law_readPrefixed_22 : decode prog_6_method_12_code 22 = .ok (.bipush (-22), 2) := by decide +kernel
theorem d_Law_readPrefixed_24 : decode prog_6_method_12_code 24 = .ok (.invokevirtual 61, 3) := by decide +kernel
theorem d_Law_readPrefixed_27 : decode prog_6_method_12_code 27 = .ok (.iconst 1, 1) := by decide +kernel
theorem d_Law_readPrefixed_28 : decode prog_6_method_12_code 28 = .ok (.ireturn, 1) := by decide +kernel
theorem b_Law_readPrefixed_0 {d : Nat} {x1 : Int32} {x2 : Int32} {h : am_H} {Q : am_Q} (k : m_Law_readOperand d [.ref 6, .int x2] h (fun r hh => am_W (X_Law_readPrefixed (d + 1)) 5 [some (.ref 6), some (.int x1), some (.int x2)] (r.toList ++ []) hh Q)) : am_W (X_Law_readPrefixed (d + 1)) 0 [some (.ref 6), some (.int x1), some (.int x2)] [] h Q :=
  am_aload_n d_Law_readPrefixed_0 rfl (i := 0) rfl <|
    am_iload_n d_Law_readPrefixed_1 rfl (i := 2) rfl <|
    am_callV (vs := [.int x2]) (st := []) (k := 6) (ci := 2) rfl d_Law_readPrefixed_2 rfl rfl w_545 w_547 w_7 w_86 w_548 p_Law_readOperand (Nat.le_of_ble_eq_true rfl) (Nat.le_of_ble_eq_true rfl) rfl k
theorem b_Law_readPrefixed_5 {d : Nat} {x1 : Int32} {x2 : Int32} {y0 : Bool} {h : am_H} {Q : am_Q} (kt : ¬ (am_b y0) = 0 → am_W (X_Law_readPrefixed d) 10 [some (.ref 6), some (.int x1), some (.int x2)] [] h Q) (kf : (am_b y0) = 0 → am_W (X_Law_readPrefixed d) 8 [some (.ref 6), some (.int x1), some (.int x2)] [] h Q) : am_W (X_Law_readPrefixed d) 5 [some (.ref 6), some (.int x1), some (.int x2)] [.int (am_b y0)] h Q :=
  am_if_ne (tgt := 10) d_Law_readPrefixed_5 (by decide) kt kf
theorem b_Law_readPrefixed_8 {d : Nat} {x1 : Int32} {x2 : Int32} {h : am_H} {Q : am_Q} (q : Q (some (.int 0)) h) : am_W (X_Law_readPrefixed d) 8 [some (.ref 6), some (.int x1), some (.int x2)] [] h Q :=
  am_iconst (v := 0) d_Law_readPrefixed_8 (by decide) <|
    am_zret (ty := .boolean) rfl (by decide) d_Law_readPrefixed_9 q
theorem b_Law_readPrefixed_10 {d : Nat} {x1 : Int32} {x2 : Int32} {h : am_H} {Q : am_Q} (kt : ¬ x1 = 33 → am_W (X_Law_readPrefixed d) 22 [some (.ref 6), some (.int x1), some (.int x2)] [.ref 6] h Q) (kf : x1 = 33 → am_W (X_Law_readPrefixed d) 17 [some (.ref 6), some (.int x1), some (.int x2)] [.ref 6] h Q) : am_W (X_Law_readPrefixed d) 10 [some (.ref 6), some (.int x1), some (.int x2)] [] h Q :=
  am_aload_n d_Law_readPrefixed_10 rfl (i := 0) rfl <|
    am_iload_n d_Law_readPrefixed_11 rfl (i := 1) rfl <|
    am_bipush (v := 33) d_Law_readPrefixed_12 (by decide) <|
    am_icmp_ne (tgt := 22) d_Law_readPrefixed_14 (by decide) kt kf
theorem b_Law_readPrefixed_17 {d : Nat} {x1 : Int32} {x2 : Int32} {h : am_H} {Q : am_Q} (k : am_W (X_Law_readPrefixed d) 24 [some (.ref 6), some (.int x1), some (.int x2)] [.int (-21), .ref 6] h Q) : am_W (X_Law_readPrefixed d) 17 [some (.ref 6), some (.int x1), some (.int x2)] [.ref 6] h Q :=
  am_bipush (v := (-21)) d_Law_readPrefixed_17 (by decide) <|
    am_goto (tgt := 24) d_Law_readPrefixed_19 (by decide) k
theorem b_Law_readPrefixed_22 {d : Nat} {x1 : Int32} {x2 : Int32} {h : am_H} {Q : am_Q} (k : am_W (X_Law_readPrefixed d) 24 [some (.ref 6), some (.int x1), some (.int x2)] [.int (-22), .ref 6] h Q) : am_W (X_Law_readPrefixed d) 22 [some (.ref 6), some (.int x1), some (.int x2)] [.ref 6] h Q :=
  am_bipush (v := (-22)) d_Law_readPrefixed_22 (by decide) <|
    k
theorem b_Law_readPrefixed_24 {d : Nat} {x1 : Int32} {x2 : Int32} {y1 : Int32} {h : am_H} {Q : am_Q} (k : m_Law_write d [.ref 6, .int y1] h (fun r hh => am_W (X_Law_readPrefixed (d + 1)) 27 [some (.ref 6), some (.int x1), some (.int x2)] (r.toList ++ []) hh Q)) : am_W (X_Law_readPrefixed (d + 1)) 24 [some (.ref 6), some (.int x1), some (.int x2)] [.int y1, .ref 6] h Q :=
  am_callV (vs := [.int y1]) (st := []) (k := 6) (ci := 2) rfl d_Law_readPrefixed_24 rfl rfl w_560 w_562 w_10 w_86 w_563 p_Law_write (Nat.le_of_ble_eq_true rfl) (Nat.le_of_ble_eq_true rfl) rfl k
theorem b_Law_readPrefixed_27 {d : Nat} {x1 : Int32} {x2 : Int32} {h : am_H} {Q : am_Q} (q : Q (some (.int 1)) h) : am_W (X_Law_readPrefixed d) 27 [some (.ref 6), some (.int x1), some (.int x2)] [] h Q :=
  am_iconst (v := 1) d_Law_readPrefixed_27 (by decide) <|
    am_zret (ty := .boolean) rfl (by decide) d_Law_readPrefixed_28 q
theorem t_Law_readBracket_18 {d : Nat} {rc : rc_Law_readBracket} {x1 : Int32} {h : am_H} {Q : am_Q} {res : Bool × am_H} (hr0 : ∀ {x1 : Int32} {h : am_H} {Q : am_Q} {res : Bool × am_H}, rc.1 h x1 = some res → Q (some (.int (am_b res.1))) res.2 → m_Law_readBracket (d + 3) [.ref 6, .int x1] h Q) (hr1 : ∀ {x1 : Int32} {x2 : Int32} {h : am_H} {Q : am_Q} {res : Bool × am_H}, rc.2.1 h x1 x2 = some res → Q (some (.int (am_b res.1))) res.2 → m_Law_readLevel (d + 3) [.ref 6, .int x1, .int x2] h Q) (hr2 : ∀ {x1 : Int32} {h : am_H} {Q : am_Q} {res : Bool × am_H}, rc.2.2.1 h x1 = some res → Q (some (.int (am_b res.1))) res.2 → m_Law_readOperand (d + 3) [.ref 6, .int x1] h Q) (hr3 : ∀ {x1 : Int32} {x2 : Int32} {h : am_H} {Q : am_Q} {res : Bool × am_H}, rc.2.2.2 h x1 x2 = some res → Q (some (.int (am_b res.1))) res.2 → m_Law_readPrefixed (d + 3) [.ref 6, .int x1, .int x2] h Q) (e : f_Law_readBracket_18 rc h = some res) (q : Q (some (.int (am_b res.1))) res.2) : am_W (X_Law_readBracket (d + 3 + 1)) 18 [some (.ref 6), some (.int x1)] [] h Q :=
  b_Law_readBracket_18 (d := (d + 3 + 1)) (q := (am_rZpi (v := false) e q))
theorem t_Law_readBracket_20 {d : Nat} {rc : rc_Law_readBracket} {x1 : Int32} {h : am_H} {Q : am_Q} {res : Bool × am_H} (hr0 : ∀ {x1 : Int32} {h : am_H} {Q : am_Q} {res : Bool × am_H}, rc.1 h x1 = some res → Q (some (.int (am_b res.1))) res.2 → m_Law_readBracket (d + 3) [.ref 6, .int x1] h Q) (hr1 : ∀ {x1 : Int32} {x2 : Int32} {h : am_H} {Q : am_Q} {res : Bool × am_H}, rc.2.1 h x1 x2 = some res → Q (some (.int (am_b res.1))) res.2 → m_Law_readLevel (d + 3) [.ref 6, .int x1, .int x2] h Q) (hr2 : ∀ {x1 : Int32} {h : am_H} {Q : am_Q} {res : Bool × am_H}, rc.2.2.1 h x1 = some res → Q (some (.int (am_b res.1))) res.2 → m_Law_readOperand (d + 3) [.ref 6, .int x1] h Q) (hr3 : ∀ {x1 : Int32} {x2 : Int32} {h : am_H} {Q : am_Q} {res : Bool × am_H}, rc.2.2.2 h x1 x2 = some res → Q (some (.int (am_b res.1))) res.2 → m_Law_readPrefixed (d + 3) [.ref 6, .int x1, .int x2] h Q) (e : f_Law_readBracket_20 rc h = some res) (q : Q (some (.int (am_b res.1))) res.2) : am_W (X_Law_readBracket (d + 3 + 1)) 20 [some (.ref 6), some (.int x1)] [] h Q :=
  b_Law_readBracket_20 (d := (d + 3 + 1)) (q := (am_rZpi (v := true) e q))
theorem t_Law_readBracket_13 {d : Nat} {rc : rc_Law_readBracket} {x1 : Int32} {y0 : Int32} {h : am_H} {Q : am_Q} {res : Bool × am_H} (hr0 : ∀ {x1 : Int32} {h : am_H} {Q : am_Q} {res : Bool × am_H}, rc.1 h x1 = some res → Q (some (.int (am_b res.1))) res.2 → m_Law_readBracket (d + 3) [.ref 6, .int x1] h Q) (hr1 : ∀ {x1 : Int32} {x2 : Int32} {h : am_H} {Q : am_Q} {res : Bool × am_H}, rc.2.1 h x1 x2 = some res → Q (some (.int (am_b res.1))) res.2 → m_Law_readLevel (d + 3) [.ref 6, .int x1, .int x2] h Q) (hr2 : ∀ {x1 : Int32} {h : am_H} {Q : am_Q} {res : Bool × am_H}, rc.2.2.1 h x1 = some res → Q (some (.int (am_b res.1))) res.2 → m_Law_readOperand (d + 3) [.ref 6, .int x1] h Q) (hr3 : ∀ {x1 : Int32} {x2 : Int32} {h : am_H} {Q : am_Q} {res : Bool × am_H}, rc.2.2.2 h x1 x2 = some res → Q (some (.int (am_b res.1))) res.2 → m_Law_readPrefixed (d + 3) [.ref 6, .int x1, .int x2] h Q) (e : f_Law_readBracket_13 rc h y0 = some res) (q : Q (some (.int (am_b res.1))) res.2) : am_W (X_Law_readBracket (d + 3 + 1)) 13 [some (.ref 6), some (.int x1)] [.int y0] h Q :=
  b_Law_readBracket_13 (d := (d + 3 + 1)) (kt := fun c => (t_Law_readBracket_20 hr0 hr1 hr2 hr3 (am_ift e c) q)) (kf := fun c => (t_Law_readBracket_18 hr0 hr1 hr2 hr3 (am_ife e c) q))
theorem t_Law_readBracket_9 {d : Nat} {rc : rc_Law_readBracket} {x1 : Int32} {h : am_H} {Q : am_Q} {res : Bool × am_H} (hr0 : ∀ {x1 : Int32} {h : am_H} {Q : am_Q} {res : Bool × am_H}, rc.1 h x1 = some res → Q (some (.int (am_b res.1))) res.2 → m_Law_readBracket (d + 3) [.ref 6, .int x1] h Q) (hr1 : ∀ {x1 : Int32} {x2 : Int32} {h : am_H} {Q : am_Q} {res : Bool × am_H}, rc.2.1 h x1 x2 = some res → Q (some (.int (am_b res.1))) res.2 → m_Law_readLevel (d + 3) [.ref 6, .int x1, .int x2] h Q) (hr2 : ∀ {x1 : Int32} {h : am_H} {Q : am_Q} {res : Bool × am_H}, rc.2.2.1 h x1 = some res → Q (some (.int (am_b res.1))) res.2 → m_Law_readOperand (d + 3) [.ref 6, .int x1] h Q) (hr3 : ∀ {x1 : Int32} {x2 : Int32} {h : am_H} {Q : am_Q} {res : Bool × am_H}, rc.2.2.2 h x1 x2 = some res → Q (some (.int (am_b res.1))) res.2 → m_Law_readPrefixed (d + 3) [.ref 6, .int x1, .int x2] h Q) (e : f_Law_readBracket_9 rc h = some res) (q : Q (some (.int (am_b res.1))) res.2) : am_W (X_Law_readBracket (d + 3 + 1)) 9 [some (.ref 6), some (.int x1)] [] h Q :=
  (am_bd e).elim fun p hp => b_Law_readBracket_9 (d := (d + 3)) (k := c_Law_next (d := d + 3) hp.1 (t_Law_readBracket_13 hr0 hr1 hr2 hr3 hp.2 q))
theorem t_Law_readBracket_6 {d : Nat} {rc : rc_Law_readBracket} {x1 : Int32} {y0 : Bool} {h : am_H} {Q : am_Q} {res : Bool × am_H} (hr0 : ∀ {x1 : Int32} {h : am_H} {Q : am_Q} {res : Bool × am_H}, rc.1 h x1 = some res → Q (some (.int (am_b res.1))) res.2 → m_Law_readBracket (d + 3) [.ref 6, .int x1] h Q) (hr1 : ∀ {x1 : Int32} {x2 : Int32} {h : am_H} {Q : am_Q} {res : Bool × am_H}, rc.2.1 h x1 x2 = some res → Q (some (.int (am_b res.1))) res.2 → m_Law_readLevel (d + 3) [.ref 6, .int x1, .int x2] h Q) (hr2 : ∀ {x1 : Int32} {h : am_H} {Q : am_Q} {res : Bool × am_H}, rc.2.2.1 h x1 = some res → Q (some (.int (am_b res.1))) res.2 → m_Law_readOperand (d + 3) [.ref 6, .int x1] h Q) (hr3 : ∀ {x1 : Int32} {x2 : Int32} {h : am_H} {Q : am_Q} {res : Bool × am_H}, rc.2.2.2 h x1 x2 = some res → Q (some (.int (am_b res.1))) res.2 → m_Law_readPrefixed (d + 3) [.ref 6, .int x1, .int x2] h Q) (e : f_Law_readBracket_6 rc h y0 = some res) (q : Q (some (.int (am_b res.1))) res.2) : am_W (X_Law_readBracket (d + 3 + 1)) 6 [some (.ref 6), some (.int x1)] [.int (am_b y0)] h Q :=
  b_Law_readBracket_6 (d := (d + 3 + 1)) (kt := fun c => (t_Law_readBracket_18 hr0 hr1 hr2 hr3 (am_iff e (am_bz c)) q)) (kf := fun c => (t_Law_readBracket_9 hr0 hr1 hr2 hr3 (am_ift e (am_bn c)) q))
theorem t_Law_readBracket_0 {d : Nat} {rc : rc_Law_readBracket} {x1 : Int32} {h : am_H} {Q : am_Q} {res : Bool × am_H} (hr0 : ∀ {x1 : Int32} {h : am_H} {Q : am_Q} {res : Bool × am_H}, rc.1 h x1 = some res → Q (some (.int (am_b res.1))) res.2 → m_Law_readBracket (d + 3) [.ref 6, .int x1] h Q) (hr1 : ∀ {x1 : Int32} {x2 : Int32} {h : am_H} {Q : am_Q} {res : Bool × am_H}, rc.2.1 h x1 x2 = some res → Q (some (.int (am_b res.1))) res.2 → m_Law_readLevel (d + 3) [.ref 6, .int x1, .int x2] h Q) (hr2 : ∀ {x1 : Int32} {h : am_H} {Q : am_Q} {res : Bool × am_H}, rc.2.2.1 h x1 = some res → Q (some (.int (am_b res.1))) res.2 → m_Law_readOperand (d + 3) [.ref 6, .int x1] h Q) (hr3 : ∀ {x1 : Int32} {x2 : Int32} {h : am_H} {Q : am_Q} {res : Bool × am_H}, rc.2.2.2 h x1 x2 = some res → Q (some (.int (am_b res.1))) res.2 → m_Law_readPrefixed (d + 3) [.ref 6, .int x1, .int x2] h Q) (e : f_Law_readBracket_0 rc h x1 = some res) (q : Q (some (.int (am_b res.1))) res.2) : am_W (X_Law_readBracket (d + 3 + 1)) 0 [some (.ref 6), some (.int x1)] [] h Q :=
  (am_bd e).elim fun p hp => b_Law_readBracket_0 (d := (d + 3)) (k := hr1 hp.1 (t_Law_readBracket_6 hr0 hr1 hr2 hr3 hp.2 q))
theorem t_Law_readLevel_91 {d : Nat} {rc : rc_Law_readBracket} {x1 : Int32} {x2 : Int32} {x3 : Int32} {h : am_H} {Q : am_Q} {res : Bool × am_H} (hr0 : ∀ {x1 : Int32} {h : am_H} {Q : am_Q} {res : Bool × am_H}, rc.1 h x1 = some res → Q (some (.int (am_b res.1))) res.2 → m_Law_readBracket (d + 3) [.ref 6, .int x1] h Q) (hr1 : ∀ {x1 : Int32} {x2 : Int32} {h : am_H} {Q : am_Q} {res : Bool × am_H}, rc.2.1 h x1 x2 = some res → Q (some (.int (am_b res.1))) res.2 → m_Law_readLevel (d + 3) [.ref 6, .int x1, .int x2] h Q) (hr2 : ∀ {x1 : Int32} {h : am_H} {Q : am_Q} {res : Bool × am_H}, rc.2.2.1 h x1 = some res → Q (some (.int (am_b res.1))) res.2 → m_Law_readOperand (d + 3) [.ref 6, .int x1] h Q) (hr3 : ∀ {x1 : Int32} {x2 : Int32} {h : am_H} {Q : am_Q} {res : Bool × am_H}, rc.2.2.2 h x1 x2 = some res → Q (some (.int (am_b res.1))) res.2 → m_Law_readPrefixed (d + 3) [.ref 6, .int x1, .int x2] h Q) (e : f_Law_readLevel_91 rc h = some res) (q : Q (some (.int (am_b res.1))) res.2) : am_W (X_Law_readLevel (d + 3 + 1)) 91 [some (.ref 6), some (.int x1), some (.int x2), some (.int x3), none] [] h Q :=
  b_Law_readLevel_91 (d := (d + 3 + 1)) (q := (am_rZpi (v := true) e q))
theorem t_Law_readLevel_85 {d : Nat} {rc : rc_Law_readBracket} {k26 : am_H → Int32 → Int32 → Int32 → Option (Bool × am_H)} {x1 : Int32} {x2 : Int32} {x3 : Int32} {x4 : Int32} {h : am_H} {Q : am_Q} {res : Bool × am_H} (hr0 : ∀ {x1 : Int32} {h : am_H} {Q : am_Q} {res : Bool × am_H}, rc.1 h x1 = some res → Q (some (.int (am_b res.1))) res.2 → m_Law_readBracket (d + 3) [.ref 6, .int x1] h Q) (hr1 : ∀ {x1 : Int32} {x2 : Int32} {h : am_H} {Q : am_Q} {res : Bool × am_H}, rc.2.1 h x1 x2 = some res → Q (some (.int (am_b res.1))) res.2 → m_Law_readLevel (d + 3) [.ref 6, .int x1, .int x2] h Q) (hr2 : ∀ {x1 : Int32} {h : am_H} {Q : am_Q} {res : Bool × am_H}, rc.2.2.1 h x1 = some res → Q (some (.int (am_b res.1))) res.2 → m_Law_readOperand (d + 3) [.ref 6, .int x1] h Q) (hr3 : ∀ {x1 : Int32} {x2 : Int32} {h : am_H} {Q : am_Q} {res : Bool × am_H}, rc.2.2.2 h x1 x2 = some res → Q (some (.int (am_b res.1))) res.2 → m_Law_readPrefixed (d + 3) [.ref 6, .int x1, .int x2] h Q) (hk26 : ∀ (x1 : Int32) (x2 : Int32) (x3 : Int32) (h : am_H), k26 h x1 x2 x3 = some res → am_W (X_Law_readLevel (d + 3 + 1)) 26 [some (.ref 6), some (.int x1), some (.int x2), some (.int x3), none] [] h Q) (e : f_Law_readLevel_85 rc k26 h x1 x2 x3 = some res) (q : Q (some (.int (am_b res.1))) res.2) : am_W (X_Law_readLevel (d + 3 + 1)) 85 [some (.ref 6), some (.int x1), some (.int x2), some (.int x3), some (.int x4)] [] h Q :=
  b_Law_readLevel_85 (d := (d + 3 + 1)) (k := (am_wk2 (hk26 _ _ _ _ e) ⟨rfl, ⟨rfl, ⟨rfl, ⟨rfl, trivial⟩⟩⟩⟩))
theorem t_Law_readLevel_83 {d : Nat} {rc : rc_Law_readBracket} {x1 : Int32} {x2 : Int32} {x3 : Int32} {x4 : Int32} {h : am_H} {Q : am_Q} {res : Bool × am_H} (hr0 : ∀ {x1 : Int32} {h : am_H} {Q : am_Q} {res : Bool × am_H}, rc.1 h x1 = some res → Q (some (.int (am_b res.1))) res.2 → m_Law_readBracket (d + 3) [.ref 6, .int x1] h Q) (hr1 : ∀ {x1 : Int32} {x2 : Int32} {h : am_H} {Q : am_Q} {res : Bool × am_H}, rc.2.1 h x1 x2 = some res → Q (some (.int (am_b res.1))) res.2 → m_Law_readLevel (d + 3) [.ref 6, .int x1, .int x2] h Q) (hr2 : ∀ {x1 : Int32} {h : am_H} {Q : am_Q} {res : Bool × am_H}, rc.2.2.1 h x1 = some res → Q (some (.int (am_b res.1))) res.2 → m_Law_readOperand (d + 3) [.ref 6, .int x1] h Q) (hr3 : ∀ {x1 : Int32} {x2 : Int32} {h : am_H} {Q : am_Q} {res : Bool × am_H}, rc.2.2.2 h x1 x2 = some res → Q (some (.int (am_b res.1))) res.2 → m_Law_readPrefixed (d + 3) [.ref 6, .int x1, .int x2] h Q) (e : f_Law_readLevel_83 rc h = some res) (q : Q (some (.int (am_b res.1))) res.2) : am_W (X_Law_readLevel (d + 3 + 1)) 83 [some (.ref 6), some (.int x1), some (.int x2), some (.int x3), some (.int x4)] [] h Q :=
  b_Law_readLevel_83 (d := (d + 3 + 1)) (q := (am_rZpi (v := true) e q))
theorem t_Law_readLevel_78 {d : Nat} {rc : rc_Law_readBracket} {k26 : am_H → Int32 → Int32 → Int32 → Option (Bool × am_H)} {x1 : Int32} {x2 : Int32} {x3 : Int32} {x4 : Int32} {h : am_H} {Q : am_Q} {res : Bool × am_H} (hr0 : ∀ {x1 : Int32} {h : am_H} {Q : am_Q} {res : Bool × am_H}, rc.1 h x1 = some res → Q (some (.int (am_b res.1))) res.2 → m_Law_readBracket (d + 3) [.ref 6, .int x1] h Q) (hr1 : ∀ {x1 : Int32} {x2 : Int32} {h : am_H} {Q : am_Q} {res : Bool × am_H}, rc.2.1 h x1 x2 = some res → Q (some (.int (am_b res.1))) res.2 → m_Law_readLevel (d + 3) [.ref 6, .int x1, .int x2] h Q) (hr2 : ∀ {x1 : Int32} {h : am_H} {Q : am_Q} {res : Bool × am_H}, rc.2.2.1 h x1 = some res → Q (some (.int (am_b res.1))) res.2 → m_Law_readOperand (d + 3) [.ref 6, .int x1] h Q) (hr3 : ∀ {x1 : Int32} {x2 : Int32} {h : am_H} {Q : am_Q} {res : Bool × am_H}, rc.2.2.2 h x1 x2 = some res → Q (some (.int (am_b res.1))) res.2 → m_Law_readPrefixed (d + 3) [.ref 6, .int x1, .int x2] h Q) (hk26 : ∀ (x1 : Int32) (x2 : Int32) (x3 : Int32) (h : am_H), k26 h x1 x2 x3 = some res → am_W (X_Law_readLevel (d + 3 + 1)) 26 [some (.ref 6), some (.int x1), some (.int x2), some (.int x3), none] [] h Q) (e : f_Law_readLevel_78 rc k26 h x1 x2 x3 = some res) (q : Q (some (.int (am_b res.1))) res.2) : am_W (X_Law_readLevel (d + 3 + 1)) 78 [some (.ref 6), some (.int x1), some (.int x2), some (.int x3), some (.int x4)] [] h Q :=
  b_Law_readLevel_78 (d := (d + 3 + 1)) (kt := fun c => (t_Law_readLevel_85 hr0 hr1 hr2 hr3 hk26 (am_ife e c) q)) (kf := fun c => (t_Law_readLevel_83 hr0 hr1 hr2 hr3 (am_ift e c) q))
theorem t_Law_readLevel_72 {d : Nat} {rc : rc_Law_readBracket} {k26 : am_H → Int32 → Int32 → Int32 → Option (Bool × am_H)} {x1 : Int32} {x2 : Int32} {x3 : Int32} {x4 : Int32} {h : am_H} {Q : am_Q} {res : Bool × am_H} (hr0 : ∀ {x1 : Int32} {h : am_H} {Q : am_Q} {res : Bool × am_H}, rc.1 h x1 = some res → Q (some (.int (am_b res.1))) res.2 → m_Law_readBracket (d + 3) [.ref 6, .int x1] h Q) (hr1 : ∀ {x1 : Int32} {x2 : Int32} {h : am_H} {Q : am_Q} {res : Bool × am_H}, rc.2.1 h x1 x2 = some res → Q (some (.int (am_b res.1))) res.2 → m_Law_readLevel (d + 3) [.ref 6, .int x1, .int x2] h Q) (hr2 : ∀ {x1 : Int32} {h : am_H} {Q : am_Q} {res : Bool × am_H}, rc.2.2.1 h x1 = some res → Q (some (.int (am_b res.1))) res.2 → m_Law_readOperand (d + 3) [.ref 6, .int x1] h Q) (hr3 : ∀ {x1 : Int32} {x2 : Int32} {h : am_H} {Q : am_Q} {res : Bool × am_H}, rc.2.2.2 h x1 x2 = some res → Q (some (.int (am_b res.1))) res.2 → m_Law_readPrefixed (d + 3) [.ref 6, .int x1, .int x2] h Q) (hk26 : ∀ (x1 : Int32) (x2 : Int32) (x3 : Int32) (h : am_H), k26 h x1 x2 x3 = some res → am_W (X_Law_readLevel (d + 3 + 1)) 26 [some (.ref 6), some (.int x1), some (.int x2), some (.int x3), none] [] h Q) (e : f_Law_readLevel_72 rc k26 h x1 x2 x3 x4 = some res) (q : Q (some (.int (am_b res.1))) res.2) : am_W (X_Law_readLevel (d + 3 + 1)) 72 [some (.ref 6), some (.int x1), some (.int x2), some (.int x3), some (.int x4)] [] h Q :=
  (am_bd e).elim fun p hp => b_Law_readLevel_72 (d := (d + 3)) (k := c_Law_write (d := d + 3) hp.1 (t_Law_readLevel_78 hr0 hr1 hr2 hr3 hk26 hp.2 q))
theorem t_Law_readLevel_70 {d : Nat} {rc : rc_Law_readBracket} {x1 : Int32} {x2 : Int32} {x3 : Int32} {x4 : Int32} {h : am_H} {Q : am_Q} {res : Bool × am_H} (hr0 : ∀ {x1 : Int32} {h : am_H} {Q : am_Q} {res : Bool × am_H}, rc.1 h x1 = some res → Q (some (.int (am_b res.1))) res.2 → m_Law_readBracket (d + 3) [.ref 6, .int x1] h Q) (hr1 : ∀ {x1 : Int32} {x2 : Int32} {h : am_H} {Q : am_Q} {res : Bool × am_H}, rc.2.1 h x1 x2 = some res → Q (some (.int (am_b res.1))) res.2 → m_Law_readLevel (d + 3) [.ref 6, .int x1, .int x2] h Q) (hr2 : ∀ {x1 : Int32} {h : am_H} {Q : am_Q} {res : Bool × am_H}, rc.2.2.1 h x1 = some res → Q (some (.int (am_b res.1))) res.2 → m_Law_readOperand (d + 3) [.ref 6, .int x1] h Q) (hr3 : ∀ {x1 : Int32} {x2 : Int32} {h : am_H} {Q : am_Q} {res : Bool × am_H}, rc.2.2.2 h x1 x2 = some res → Q (some (.int (am_b res.1))) res.2 → m_Law_readPrefixed (d + 3) [.ref 6, .int x1, .int x2] h Q) (e : f_Law_readLevel_70 rc h = some res) (q : Q (some (.int (am_b res.1))) res.2) : am_W (X_Law_readLevel (d + 3 + 1)) 70 [some (.ref 6), some (.int x1), some (.int x2), some (.int x3), some (.int x4)] [] h Q :=
  b_Law_readLevel_70 (d := (d + 3 + 1)) (q := (am_rZpi (v := false) e q))
theorem t_Law_readLevel_67 {d : Nat} {rc : rc_Law_readBracket} {k26 : am_H → Int32 → Int32 → Int32 → Option (Bool × am_H)} {x1 : Int32} {x2 : Int32} {x3 : Int32} {x4 : Int32} {y0 : Bool} {h : am_H} {Q : am_Q} {res : Bool × am_H} (hr0 : ∀ {x1 : Int32} {h : am_H} {Q : am_Q} {res : Bool × am_H}, rc.1 h x1 = some res → Q (some (.int (am_b res.1))) res.2 → m_Law_readBracket (d + 3) [.ref 6, .int x1] h Q) (hr1 : ∀ {x1 : Int32} {x2 : Int32} {h : am_H} {Q : am_Q} {res : Bool × am_H}, rc.2.1 h x1 x2 = some res → Q (some (.int (am_b res.1))) res.2 → m_Law_readLevel (d + 3) [.ref 6, .int x1, .int x2] h Q) (hr2 : ∀ {x1 : Int32} {h : am_H} {Q : am_Q} {res : Bool × am_H}, rc.2.2.1 h x1 = some res → Q (some (.int (am_b res.1))) res.2 → m_Law_readOperand (d + 3) [.ref 6, .int x1] h Q) (hr3 : ∀ {x1 : Int32} {x2 : Int32} {h : am_H} {Q : am_Q} {res : Bool × am_H}, rc.2.2.2 h x1 x2 = some res → Q (some (.int (am_b res.1))) res.2 → m_Law_readPrefixed (d + 3) [.ref 6, .int x1, .int x2] h Q) (hk26 : ∀ (x1 : Int32) (x2 : Int32) (x3 : Int32) (h : am_H), k26 h x1 x2 x3 = some res → am_W (X_Law_readLevel (d + 3 + 1)) 26 [some (.ref 6), some (.int x1), some (.int x2), some (.int x3), none] [] h Q) (e : f_Law_readLevel_67 rc k26 h x1 x2 x3 x4 y0 = some res) (q : Q (some (.int (am_b res.1))) res.2) : am_W (X_Law_readLevel (d + 3 + 1)) 67 [some (.ref 6), some (.int x1), some (.int x2), some (.int x3), some (.int x4)] [.int (am_b y0)] h Q :=
  b_Law_readLevel_67 (d := (d + 3 + 1)) (kt := fun c => (t_Law_readLevel_72 hr0 hr1 hr2 hr3 hk26 (am_ift e (am_bn c)) q)) (kf := fun c => (t_Law_readLevel_70 hr0 hr1 hr2 hr3 (am_iff e (am_bz c)) q))
theorem t_Law_readLevel_49 {d : Nat} {rc : rc_Law_readBracket} {k26 : am_H → Int32 → Int32 → Int32 → Option (Bool × am_H)} {x1 : Int32} {x2 : Int32} {x3 : Int32} {x4 : Int32} {h : am_H} {Q : am_Q} {res : Bool × am_H} (hr0 : ∀ {x1 : Int32} {h : am_H} {Q : am_Q} {res : Bool × am_H}, rc.1 h x1 = some res → Q (some (.int (am_b res.1))) res.2 → m_Law_readBracket (d + 3) [.ref 6, .int x1] h Q) (hr1 : ∀ {x1 : Int32} {x2 : Int32} {h : am_H} {Q : am_Q} {res : Bool × am_H}, rc.2.1 h x1 x2 = some res → Q (some (.int (am_b res.1))) res.2 → m_Law_readLevel (d + 3) [.ref 6, .int x1, .int x2] h Q) (hr2 : ∀ {x1 : Int32} {h : am_H} {Q : am_Q} {res : Bool × am_H}, rc.2.2.1 h x1 = some res → Q (some (.int (am_b res.1))) res.2 → m_Law_readOperand (d + 3) [.ref 6, .int x1] h Q) (hr3 : ∀ {x1 : Int32} {x2 : Int32} {h : am_H} {Q : am_Q} {res : Bool × am_H}, rc.2.2.2 h x1 x2 = some res → Q (some (.int (am_b res.1))) res.2 → m_Law_readPrefixed (d + 3) [.ref 6, .int x1, .int x2] h Q) (hk26 : ∀ (x1 : Int32) (x2 : Int32) (x3 : Int32) (h : am_H), k26 h x1 x2 x3 = some res → am_W (X_Law_readLevel (d + 3 + 1)) 26 [some (.ref 6), some (.int x1), some (.int x2), some (.int x3), none] [] h Q) (e : f_Law_readLevel_49 rc k26 h x1 x2 x3 x4 = some res) (q : Q (some (.int (am_b res.1))) res.2) : am_W (X_Law_readLevel (d + 3 + 1)) 49 [some (.ref 6), some (.int x1), some (.int x2), some (.int x3), some (.int x4)] [] h Q :=
  (am_bd e).elim fun p hp => b_Law_readLevel_49 (d := (d + 3)) (k := hr1 hp.1 (t_Law_readLevel_67 hr0 hr1 hr2 hr3 hk26 hp.2 q))
theorem t_Law_readLevel_47 {d : Nat} {rc : rc_Law_readBracket} {x1 : Int32} {x2 : Int32} {x3 : Int32} {x4 : Int32} {h : am_H} {Q : am_Q} {res : Bool × am_H} (hr0 : ∀ {x1 : Int32} {h : am_H} {Q : am_Q} {res : Bool × am_H}, rc.1 h x1 = some res → Q (some (.int (am_b res.1))) res.2 → m_Law_readBracket (d + 3) [.ref 6, .int x1] h Q) (hr1 : ∀ {x1 : Int32} {x2 : Int32} {h : am_H} {Q : am_Q} {res : Bool × am_H}, rc.2.1 h x1 x2 = some res → Q (some (.int (am_b res.1))) res.2 → m_Law_readLevel (d + 3) [.ref 6, .int x1, .int x2] h Q) (hr2 : ∀ {x1 : Int32} {h : am_H} {Q : am_Q} {res : Bool × am_H}, rc.2.2.1 h x1 = some res → Q (some (.int (am_b res.1))) res.2 → m_Law_readOperand (d + 3) [.ref 6, .int x1] h Q) (hr3 : ∀ {x1 : Int32} {x2 : Int32} {h : am_H} {Q : am_Q} {res : Bool × am_H}, rc.2.2.2 h x1 x2 = some res → Q (some (.int (am_b res.1))) res.2 → m_Law_readPrefixed (d + 3) [.ref 6, .int x1, .int x2] h Q) (e : f_Law_readLevel_47 rc h = some res) (q : Q (some (.int (am_b res.1))) res.2) : am_W (X_Law_readLevel (d + 3 + 1)) 47 [some (.ref 6), some (.int x1), some (.int x2), some (.int x3), some (.int x4)] [] h Q :=
  b_Law_readLevel_47 (d := (d + 3 + 1)) (q := (am_rZpi (v := true) e q))
theorem t_Law_readLevel_40 {d : Nat} {rc : rc_Law_readBracket} {k26 : am_H → Int32 → Int32 → Int32 → Option (Bool × am_H)} {x1 : Int32} {x2 : Int32} {x3 : Int32} {y0 : Int32} {h : am_H} {Q : am_Q} {res : Bool × am_H} (hr0 : ∀ {x1 : Int32} {h : am_H} {Q : am_Q} {res : Bool × am_H}, rc.1 h x1 = some res → Q (some (.int (am_b res.1))) res.2 → m_Law_readBracket (d + 3) [.ref 6, .int x1] h Q) (hr1 : ∀ {x1 : Int32} {x2 : Int32} {h : am_H} {Q : am_Q} {res : Bool × am_H}, rc.2.1 h x1 x2 = some res → Q (some (.int (am_b res.1))) res.2 → m_Law_readLevel (d + 3) [.ref 6, .int x1, .int x2] h Q) (hr2 : ∀ {x1 : Int32} {h : am_H} {Q : am_Q} {res : Bool × am_H}, rc.2.2.1 h x1 = some res → Q (some (.int (am_b res.1))) res.2 → m_Law_readOperand (d + 3) [.ref 6, .int x1] h Q) (hr3 : ∀ {x1 : Int32} {x2 : Int32} {h : am_H} {Q : am_Q} {res : Bool × am_H}, rc.2.2.2 h x1 x2 = some res → Q (some (.int (am_b res.1))) res.2 → m_Law_readPrefixed (d + 3) [.ref 6, .int x1, .int x2] h Q) (hk26 : ∀ (x1 : Int32) (x2 : Int32) (x3 : Int32) (h : am_H), k26 h x1 x2 x3 = some res → am_W (X_Law_readLevel (d + 3 + 1)) 26 [some (.ref 6), some (.int x1), some (.int x2), some (.int x3), none] [] h Q) (e : f_Law_readLevel_40 rc k26 h x1 x2 x3 y0 = some res) (q : Q (some (.int (am_b res.1))) res.2) : am_W (X_Law_readLevel (d + 3 + 1)) 40 [some (.ref 6), some (.int x1), some (.int x2), some (.int x3), none] [.int y0] h Q :=
  b_Law_readLevel_40 (d := (d + 3 + 1)) (kt := fun c => (t_Law_readLevel_49 hr0 hr1 hr2 hr3 hk26 (am_ife e c) q)) (kf := fun c => (t_Law_readLevel_47 hr0 hr1 hr2 hr3 (am_ift e c) q))
theorem t_Law_readLevel_37 {d : Nat} {rc : rc_Law_readBracket} {k26 : am_H → Int32 → Int32 → Int32 → Option (Bool × am_H)} {x1 : Int32} {x2 : Int32} {x3 : Int32} {y1 : Int32} {y0 : Int32} {h : am_H} {Q : am_Q} {res : Bool × am_H} (hr0 : ∀ {x1 : Int32} {h : am_H} {Q : am_Q} {res : Bool × am_H}, rc.1 h x1 = some res → Q (some (.int (am_b res.1))) res.2 → m_Law_readBracket (d + 3) [.ref 6, .int x1] h Q) (hr1 : ∀ {x1 : Int32} {x2 : Int32} {h : am_H} {Q : am_Q} {res : Bool × am_H}, rc.2.1 h x1 x2 = some res → Q (some (.int (am_b res.1))) res.2 → m_Law_readLevel (d + 3) [.ref 6, .int x1, .int x2] h Q) (hr2 : ∀ {x1 : Int32} {h : am_H} {Q : am_Q} {res : Bool × am_H}, rc.2.2.1 h x1 = some res → Q (some (.int (am_b res.1))) res.2 → m_Law_readOperand (d + 3) [.ref 6, .int x1] h Q) (hr3 : ∀ {x1 : Int32} {x2 : Int32} {h : am_H} {Q : am_Q} {res : Bool × am_H}, rc.2.2.2 h x1 x2 = some res → Q (some (.int (am_b res.1))) res.2 → m_Law_readPrefixed (d + 3) [.ref 6, .int x1, .int x2] h Q) (hk26 : ∀ (x1 : Int32) (x2 : Int32) (x3 : Int32) (h : am_H), k26 h x1 x2 x3 = some res → am_W (X_Law_readLevel (d + 3 + 1)) 26 [some (.ref 6), some (.int x1), some (.int x2), some (.int x3), none] [] h Q) (e : f_Law_readLevel_37 rc k26 h x1 x2 x3 y1 y0 = some res) (q : Q (some (.int (am_b res.1))) res.2) : am_W (X_Law_readLevel (d + 3 + 1)) 37 [some (.ref 6), some (.int x1), some (.int x2), some (.int x3), none] [.int y1, .int y0] h Q :=
  b_Law_readLevel_37 (d := (d + 3)) (k := c_Law_operatorOf (d := d + 3) rfl (t_Law_readLevel_40 hr0 hr1 hr2 hr3 hk26 e q))
theorem t_Law_readLevel_32 {d : Nat} {rc : rc_Law_readBracket} {k26 : am_H → Int32 → Int32 → Int32 → Option (Bool × am_H)} {x1 : Int32} {x2 : Int32} {x3 : Int32} {h : am_H} {Q : am_Q} {res : Bool × am_H} (hr0 : ∀ {x1 : Int32} {h : am_H} {Q : am_Q} {res : Bool × am_H}, rc.1 h x1 = some res → Q (some (.int (am_b res.1))) res.2 → m_Law_readBracket (d + 3) [.ref 6, .int x1] h Q) (hr1 : ∀ {x1 : Int32} {x2 : Int32} {h : am_H} {Q : am_Q} {res : Bool × am_H}, rc.2.1 h x1 x2 = some res → Q (some (.int (am_b res.1))) res.2 → m_Law_readLevel (d + 3) [.ref 6, .int x1, .int x2] h Q) (hr2 : ∀ {x1 : Int32} {h : am_H} {Q : am_Q} {res : Bool × am_H}, rc.2.2.1 h x1 = some res → Q (some (.int (am_b res.1))) res.2 → m_Law_readOperand (d + 3) [.ref 6, .int x1] h Q) (hr3 : ∀ {x1 : Int32} {x2 : Int32} {h : am_H} {Q : am_Q} {res : Bool × am_H}, rc.2.2.2 h x1 x2 = some res → Q (some (.int (am_b res.1))) res.2 → m_Law_readPrefixed (d + 3) [.ref 6, .int x1, .int x2] h Q) (hk26 : ∀ (x1 : Int32) (x2 : Int32) (x3 : Int32) (h : am_H), k26 h x1 x2 x3 = some res → am_W (X_Law_readLevel (d + 3 + 1)) 26 [some (.ref 6), some (.int x1), some (.int x2), some (.int x3), none] [] h Q) (e : f_Law_readLevel_32 rc k26 h x1 x2 x3 = some res) (q : Q (some (.int (am_b res.1))) res.2) : am_W (X_Law_readLevel (d + 3 + 1)) 32 [some (.ref 6), some (.int x1), some (.int x2), some (.int x3), none] [] h Q :=
  (am_bd e).elim fun p hp => b_Law_readLevel_32 (d := (d + 3)) (k := c_Law_next (d := d + 3) hp.1 (t_Law_readLevel_37 hr0 hr1 hr2 hr3 hk26 hp.2 q))
theorem t_Law_readLevel_26 {d : Nat} {rc : rc_Law_readBracket} {k26 : am_H → Int32 → Int32 → Int32 → Option (Bool × am_H)} {x1 : Int32} {x2 : Int32} {x3 : Int32} {h : am_H} {Q : am_Q} {res : Bool × am_H} (hr0 : ∀ {x1 : Int32} {h : am_H} {Q : am_Q} {res : Bool × am_H}, rc.1 h x1 = some res → Q (some (.int (am_b res.1))) res.2 → m_Law_readBracket (d + 3) [.ref 6, .int x1] h Q) (hr1 : ∀ {x1 : Int32} {x2 : Int32} {h : am_H} {Q : am_Q} {res : Bool × am_H}, rc.2.1 h x1 x2 = some res → Q (some (.int (am_b res.1))) res.2 → m_Law_readLevel (d + 3) [.ref 6, .int x1, .int x2] h Q) (hr2 : ∀ {x1 : Int32} {h : am_H} {Q : am_Q} {res : Bool × am_H}, rc.2.2.1 h x1 = some res → Q (some (.int (am_b res.1))) res.2 → m_Law_readOperand (d + 3) [.ref 6, .int x1] h Q) (hr3 : ∀ {x1 : Int32} {x2 : Int32} {h : am_H} {Q : am_Q} {res : Bool × am_H}, rc.2.2.2 h x1 x2 = some res → Q (some (.int (am_b res.1))) res.2 → m_Law_readPrefixed (d + 3) [.ref 6, .int x1, .int x2] h Q) (hk26 : ∀ (x1 : Int32) (x2 : Int32) (x3 : Int32) (h : am_H), k26 h x1 x2 x3 = some res → am_W (X_Law_readLevel (d + 3 + 1)) 26 [some (.ref 6), some (.int x1), some (.int x2), some (.int x3), none] [] h Q) (e : f_Law_readLevel_26 rc k26 h x1 x2 x3 = some res) (q : Q (some (.int (am_b res.1))) res.2) : am_W (X_Law_readLevel (d + 3 + 1)) 26 [some (.ref 6), some (.int x1), some (.int x2), some (.int x3), none] [] h Q :=
  b_Law_readLevel_26 (d := (d + 3 + 1)) (kt := fun c => (t_Law_readLevel_91 hr0 hr1 hr2 hr3 (am_ift e c) q)) (kf := fun c => (t_Law_readLevel_32 hr0 hr1 hr2 hr3 hk26 (am_ife e c) q))
theorem t_Law_readLevel_26_l {d : Nat} {rc : rc_Law_readBracket} {Q : am_Q} {res : Bool × am_H} (hr0 : ∀ {x1 : Int32} {h : am_H} {Q : am_Q} {res : Bool × am_H}, rc.1 h x1 = some res → Q (some (.int (am_b res.1))) res.2 → m_Law_readBracket (d + 3) [.ref 6, .int x1] h Q) (hr1 : ∀ {x1 : Int32} {x2 : Int32} {h : am_H} {Q : am_Q} {res : Bool × am_H}, rc.2.1 h x1 x2 = some res → Q (some (.int (am_b res.1))) res.2 → m_Law_readLevel (d + 3) [.ref 6, .int x1, .int x2] h Q) (hr2 : ∀ {x1 : Int32} {h : am_H} {Q : am_Q} {res : Bool × am_H}, rc.2.2.1 h x1 = some res → Q (some (.int (am_b res.1))) res.2 → m_Law_readOperand (d + 3) [.ref 6, .int x1] h Q) (hr3 : ∀ {x1 : Int32} {x2 : Int32} {h : am_H} {Q : am_Q} {res : Bool × am_H}, rc.2.2.2 h x1 x2 = some res → Q (some (.int (am_b res.1))) res.2 → m_Law_readPrefixed (d + 3) [.ref 6, .int x1, .int x2] h Q) (q : Q (some (.int (am_b res.1))) res.2) : ∀ (n : Nat) (x1 : Int32) (x2 : Int32) (x3 : Int32) (h : am_H), f_Law_readLevel_26_l rc n h x1 x2 x3 = some res → am_W (X_Law_readLevel (d + 3 + 1)) 26 [some (.ref 6), some (.int x1), some (.int x2), some (.int x3), none] [] h Q := by
  intro n
  induction n with
  | zero => intro x1 x2 x3 h e; exact am_nn e
  | succ n ih => intro x1 x2 x3 h e; exact t_Law_readLevel_26 hr0 hr1 hr2 hr3 (fun x1 x2 x3 h e => ih x1 x2 x3 h  e) e q
theorem t_Law_readLevel_24 {d : Nat} {rc : rc_Law_readBracket} {x1 : Int32} {x2 : Int32} {h : am_H} {Q : am_Q} {res : Bool × am_H} (hr0 : ∀ {x1 : Int32} {h : am_H} {Q : am_Q} {res : Bool × am_H}, rc.1 h x1 = some res → Q (some (.int (am_b res.1))) res.2 → m_Law_readBracket (d + 3) [.ref 6, .int x1] h Q) (hr1 : ∀ {x1 : Int32} {x2 : Int32} {h : am_H} {Q : am_Q} {res : Bool × am_H}, rc.2.1 h x1 x2 = some res → Q (some (.int (am_b res.1))) res.2 → m_Law_readLevel (d + 3) [.ref 6, .int x1, .int x2] h Q) (hr2 : ∀ {x1 : Int32} {h : am_H} {Q : am_Q} {res : Bool × am_H}, rc.2.2.1 h x1 = some res → Q (some (.int (am_b res.1))) res.2 → m_Law_readOperand (d + 3) [.ref 6, .int x1] h Q) (hr3 : ∀ {x1 : Int32} {x2 : Int32} {h : am_H} {Q : am_Q} {res : Bool × am_H}, rc.2.2.2 h x1 x2 = some res → Q (some (.int (am_b res.1))) res.2 → m_Law_readPrefixed (d + 3) [.ref 6, .int x1, .int x2] h Q) (e : f_Law_readLevel_24 rc h x1 x2 = some res) (q : Q (some (.int (am_b res.1))) res.2) : am_W (X_Law_readLevel (d + 3 + 1)) 24 [some (.ref 6), some (.int x1), some (.int x2), none, none] [] h Q :=
  b_Law_readLevel_24 (d := (d + 3 + 1)) (k := (t_Law_readLevel_26_l hr0 hr1 hr2 hr3 q am_fu _ _ _ _ e))
theorem t_Law_readLevel_22 {d : Nat} {rc : rc_Law_readBracket} {x1 : Int32} {x2 : Int32} {h : am_H} {Q : am_Q} {res : Bool × am_H} (hr0 : ∀ {x1 : Int32} {h : am_H} {Q : am_Q} {res : Bool × am_H}, rc.1 h x1 = some res → Q (some (.int (am_b res.1))) res.2 → m_Law_readBracket (d + 3) [.ref 6, .int x1] h Q) (hr1 : ∀ {x1 : Int32} {x2 : Int32} {h : am_H} {Q : am_Q} {res : Bool × am_H}, rc.2.1 h x1 x2 = some res → Q (some (.int (am_b res.1))) res.2 → m_Law_readLevel (d + 3) [.ref 6, .int x1, .int x2] h Q) (hr2 : ∀ {x1 : Int32} {h : am_H} {Q : am_Q} {res : Bool × am_H}, rc.2.2.1 h x1 = some res → Q (some (.int (am_b res.1))) res.2 → m_Law_readOperand (d + 3) [.ref 6, .int x1] h Q) (hr3 : ∀ {x1 : Int32} {x2 : Int32} {h : am_H} {Q : am_Q} {res : Bool × am_H}, rc.2.2.2 h x1 x2 = some res → Q (some (.int (am_b res.1))) res.2 → m_Law_readPrefixed (d + 3) [.ref 6, .int x1, .int x2] h Q) (e : f_Law_readLevel_22 rc h = some res) (q : Q (some (.int (am_b res.1))) res.2) : am_W (X_Law_readLevel (d + 3 + 1)) 22 [some (.ref 6), some (.int x1), some (.int x2), none, none] [] h Q :=
  b_Law_readLevel_22 (d := (d + 3 + 1)) (q := (am_rZpi (v := false) e q))
theorem t_Law_readLevel_19 {d : Nat} {rc : rc_Law_readBracket} {x1 : Int32} {x2 : Int32} {y0 : Bool} {h : am_H} {Q : am_Q} {res : Bool × am_H} (hr0 : ∀ {x1 : Int32} {h : am_H} {Q : am_Q} {res : Bool × am_H}, rc.1 h x1 = some res → Q (some (.int (am_b res.1))) res.2 → m_Law_readBracket (d + 3) [.ref 6, .int x1] h Q) (hr1 : ∀ {x1 : Int32} {x2 : Int32} {h : am_H} {Q : am_Q} {res : Bool × am_H}, rc.2.1 h x1 x2 = some res → Q (some (.int (am_b res.1))) res.2 → m_Law_readLevel (d + 3) [.ref 6, .int x1, .int x2] h Q) (hr2 : ∀ {x1 : Int32} {h : am_H} {Q : am_Q} {res : Bool × am_H}, rc.2.2.1 h x1 = some res → Q (some (.int (am_b res.1))) res.2 → m_Law_readOperand (d + 3) [.ref 6, .int x1] h Q) (hr3 : ∀ {x1 : Int32} {x2 : Int32} {h : am_H} {Q : am_Q} {res : Bool × am_H}, rc.2.2.2 h x1 x2 = some res → Q (some (.int (am_b res.1))) res.2 → m_Law_readPrefixed (d + 3) [.ref 6, .int x1, .int x2] h Q) (e : f_Law_readLevel_19 rc h x1 x2 y0 = some res) (q : Q (some (.int (am_b res.1))) res.2) : am_W (X_Law_readLevel (d + 3 + 1)) 19 [some (.ref 6), some (.int x1), some (.int x2), none, none] [.int (am_b y0)] h Q :=
  b_Law_readLevel_19 (d := (d + 3 + 1)) (kt := fun c => (t_Law_readLevel_24 hr0 hr1 hr2 hr3 (am_ift e (am_bn c)) q)) (kf := fun c => (t_Law_readLevel_22 hr0 hr1 hr2 hr3 (am_iff e (am_bz c)) q))
theorem t_Law_readLevel_11 {d : Nat} {rc : rc_Law_readBracket} {x1 : Int32} {x2 : Int32} {h : am_H} {Q : am_Q} {res : Bool × am_H} (hr0 : ∀ {x1 : Int32} {h : am_H} {Q : am_Q} {res : Bool × am_H}, rc.1 h x1 = some res → Q (some (.int (am_b res.1))) res.2 → m_Law_readBracket (d + 3) [.ref 6, .int x1] h Q) (hr1 : ∀ {x1 : Int32} {x2 : Int32} {h : am_H} {Q : am_Q} {res : Bool × am_H}, rc.2.1 h x1 x2 = some res → Q (some (.int (am_b res.1))) res.2 → m_Law_readLevel (d + 3) [.ref 6, .int x1, .int x2] h Q) (hr2 : ∀ {x1 : Int32} {h : am_H} {Q : am_Q} {res : Bool × am_H}, rc.2.2.1 h x1 = some res → Q (some (.int (am_b res.1))) res.2 → m_Law_readOperand (d + 3) [.ref 6, .int x1] h Q) (hr3 : ∀ {x1 : Int32} {x2 : Int32} {h : am_H} {Q : am_Q} {res : Bool × am_H}, rc.2.2.2 h x1 x2 = some res → Q (some (.int (am_b res.1))) res.2 → m_Law_readPrefixed (d + 3) [.ref 6, .int x1, .int x2] h Q) (e : f_Law_readLevel_11 rc h x1 x2 = some res) (q : Q (some (.int (am_b res.1))) res.2) : am_W (X_Law_readLevel (d + 3 + 1)) 11 [some (.ref 6), some (.int x1), some (.int x2), none, none] [] h Q :=
  (am_bd e).elim fun p hp => b_Law_readLevel_11 (d := (d + 3)) (k := hr1 hp.1 (t_Law_readLevel_19 hr0 hr1 hr2 hr3 hp.2 q))
theorem t_Law_readLevel_10 {d : Nat} {rc : rc_Law_readBracket} {x1 : Int32} {x2 : Int32} {y0 : Bool} {h : am_H} {Q : am_Q} {res : Bool × am_H} (hr0 : ∀ {x1 : Int32} {h : am_H} {Q : am_Q} {res : Bool × am_H}, rc.1 h x1 = some res → Q (some (.int (am_b res.1))) res.2 → m_Law_readBracket (d + 3) [.ref 6, .int x1] h Q) (hr1 : ∀ {x1 : Int32} {x2 : Int32} {h : am_H} {Q : am_Q} {res : Bool × am_H}, rc.2.1 h x1 x2 = some res → Q (some (.int (am_b res.1))) res.2 → m_Law_readLevel (d + 3) [.ref 6, .int x1, .int x2] h Q) (hr2 : ∀ {x1 : Int32} {h : am_H} {Q : am_Q} {res : Bool × am_H}, rc.2.2.1 h x1 = some res → Q (some (.int (am_b res.1))) res.2 → m_Law_readOperand (d + 3) [.ref 6, .int x1] h Q) (hr3 : ∀ {x1 : Int32} {x2 : Int32} {h : am_H} {Q : am_Q} {res : Bool × am_H}, rc.2.2.2 h x1 x2 = some res → Q (some (.int (am_b res.1))) res.2 → m_Law_readPrefixed (d + 3) [.ref 6, .int x1, .int x2] h Q) (e : f_Law_readLevel_10 rc h y0 = some res) (q : Q (some (.int (am_b res.1))) res.2) : am_W (X_Law_readLevel (d + 3 + 1)) 10 [some (.ref 6), some (.int x1), some (.int x2), none, none] [.int (am_b y0)] h Q :=
  b_Law_readLevel_10 (d := (d + 3 + 1)) (q := (am_rZpi (v := y0) e q))
theorem t_Law_readLevel_5 {d : Nat} {rc : rc_Law_readBracket} {x1 : Int32} {x2 : Int32} {h : am_H} {Q : am_Q} {res : Bool × am_H} (hr0 : ∀ {x1 : Int32} {h : am_H} {Q : am_Q} {res : Bool × am_H}, rc.1 h x1 = some res → Q (some (.int (am_b res.1))) res.2 → m_Law_readBracket (d + 3) [.ref 6, .int x1] h Q) (hr1 : ∀ {x1 : Int32} {x2 : Int32} {h : am_H} {Q : am_Q} {res : Bool × am_H}, rc.2.1 h x1 x2 = some res → Q (some (.int (am_b res.1))) res.2 → m_Law_readLevel (d + 3) [.ref 6, .int x1, .int x2] h Q) (hr2 : ∀ {x1 : Int32} {h : am_H} {Q : am_Q} {res : Bool × am_H}, rc.2.2.1 h x1 = some res → Q (some (.int (am_b res.1))) res.2 → m_Law_readOperand (d + 3) [.ref 6, .int x1] h Q) (hr3 : ∀ {x1 : Int32} {x2 : Int32} {h : am_H} {Q : am_Q} {res : Bool × am_H}, rc.2.2.2 h x1 x2 = some res → Q (some (.int (am_b res.1))) res.2 → m_Law_readPrefixed (d + 3) [.ref 6, .int x1, .int x2] h Q) (e : f_Law_readLevel_5 rc h x2 = some res) (q : Q (some (.int (am_b res.1))) res.2) : am_W (X_Law_readLevel (d + 3 + 1)) 5 [some (.ref 6), some (.int x1), some (.int x2), none, none] [] h Q :=
  (am_bd e).elim fun p hp => b_Law_readLevel_5 (d := (d + 3)) (k := hr2 hp.1 (t_Law_readLevel_10 hr0 hr1 hr2 hr3 hp.2 q))
theorem t_Law_readLevel_0 {d : Nat} {rc : rc_Law_readBracket} {x1 : Int32} {x2 : Int32} {h : am_H} {Q : am_Q} {res : Bool × am_H} (hr0 : ∀ {x1 : Int32} {h : am_H} {Q : am_Q} {res : Bool × am_H}, rc.1 h x1 = some res → Q (some (.int (am_b res.1))) res.2 → m_Law_readBracket (d + 3) [.ref 6, .int x1] h Q) (hr1 : ∀ {x1 : Int32} {x2 : Int32} {h : am_H} {Q : am_Q} {res : Bool × am_H}, rc.2.1 h x1 x2 = some res → Q (some (.int (am_b res.1))) res.2 → m_Law_readLevel (d + 3) [.ref 6, .int x1, .int x2] h Q) (hr2 : ∀ {x1 : Int32} {h : am_H} {Q : am_Q} {res : Bool × am_H}, rc.2.2.1 h x1 = some res → Q (some (.int (am_b res.1))) res.2 → m_Law_readOperand (d + 3) [.ref 6, .int x1] h Q) (hr3 : ∀ {x1 : Int32} {x2 : Int32} {h : am_H} {Q : am_Q} {res : Bool × am_H}, rc.2.2.2 h x1 x2 = some res → Q (some (.int (am_b res.1))) res.2 → m_Law_readPrefixed (d + 3) [.ref 6, .int x1, .int x2] h Q) (e : f_Law_readLevel_0 rc h x1 x2 = some res) (q : Q (some (.int (am_b res.1))) res.2) : am_W (X_Law_readLevel (d + 3 + 1)) 0 [some (.ref 6), some (.int x1), some (.int x2), none, none] [] h Q :=
  b_Law_readLevel_0 (d := (d + 3 + 1)) (kt := fun c => (t_Law_readLevel_11 hr0 hr1 hr2 hr3 (am_ift e c) q)) (kf := fun c => (t_Law_readLevel_5 hr0 hr1 hr2 hr3 (am_ife e c) q))
theorem t_Law_readOperand_80 {d : Nat} {rc : rc_Law_readBracket} {x1 : Int32} {x2 : Int32} {x3 : Int32} {h : am_H} {Q : am_Q} {res : Bool × am_H} (hr0 : ∀ {x1 : Int32} {h : am_H} {Q : am_Q} {res : Bool × am_H}, rc.1 h x1 = some res → Q (some (.int (am_b res.1))) res.2 → m_Law_readBracket (d + 3) [.ref 6, .int x1] h Q) (hr1 : ∀ {x1 : Int32} {x2 : Int32} {h : am_H} {Q : am_Q} {res : Bool × am_H}, rc.2.1 h x1 x2 = some res → Q (some (.int (am_b res.1))) res.2 → m_Law_readLevel (d + 3) [.ref 6, .int x1, .int x2] h Q) (hr2 : ∀ {x1 : Int32} {h : am_H} {Q : am_Q} {res : Bool × am_H}, rc.2.2.1 h x1 = some res → Q (some (.int (am_b res.1))) res.2 → m_Law_readOperand (d + 3) [.ref 6, .int x1] h Q) (hr3 : ∀ {x1 : Int32} {x2 : Int32} {h : am_H} {Q : am_Q} {res : Bool × am_H}, rc.2.2.2 h x1 x2 = some res → Q (some (.int (am_b res.1))) res.2 → m_Law_readPrefixed (d + 3) [.ref 6, .int x1, .int x2] h Q) (e : f_Law_readOperand_80 rc h = some res) (q : Q (some (.int (am_b res.1))) res.2) : am_W (X_Law_readOperand (d + 3 + 1)) 80 [some (.ref 6), some (.int x1), some (.int x2), some (.int x3)] [] h Q :=
  b_Law_readOperand_80 (d := (d + 3 + 1)) (q := (am_rZpi (v := false) e q))
theorem t_Law_readOperand_116 {d : Nat} {rc : rc_Law_readBracket} {x1 : Int32} {x2 : Int32} {x3 : Int32} {y0 : Bool} {h : am_H} {Q : am_Q} {res : Bool × am_H} (hr0 : ∀ {x1 : Int32} {h : am_H} {Q : am_Q} {res : Bool × am_H}, rc.1 h x1 = some res → Q (some (.int (am_b res.1))) res.2 → m_Law_readBracket (d + 3) [.ref 6, .int x1] h Q) (hr1 : ∀ {x1 : Int32} {x2 : Int32} {h : am_H} {Q : am_Q} {res : Bool × am_H}, rc.2.1 h x1 x2 = some res → Q (some (.int (am_b res.1))) res.2 → m_Law_readLevel (d + 3) [.ref 6, .int x1, .int x2] h Q) (hr2 : ∀ {x1 : Int32} {h : am_H} {Q : am_Q} {res : Bool × am_H}, rc.2.2.1 h x1 = some res → Q (some (.int (am_b res.1))) res.2 → m_Law_readOperand (d + 3) [.ref 6, .int x1] h Q) (hr3 : ∀ {x1 : Int32} {x2 : Int32} {h : am_H} {Q : am_Q} {res : Bool × am_H}, rc.2.2.2 h x1 x2 = some res → Q (some (.int (am_b res.1))) res.2 → m_Law_readPrefixed (d + 3) [.ref 6, .int x1, .int x2] h Q) (e : f_Law_readOperand_116 rc h y0 = some res) (q : Q (some (.int (am_b res.1))) res.2) : am_W (X_Law_readOperand (d + 3 + 1)) 116 [some (.ref 6), some (.int x1), some (.int x2), some (.int x3)] [.int (am_b y0)] h Q :=
  b_Law_readOperand_116 (d := (d + 3 + 1)) (q := (am_rZpi (v := y0) e q))
theorem t_Law_readOperand_108 {d : Nat} {rc : rc_Law_readBracket} {x1 : Int32} {x2 : Int32} {x3 : Int32} {h : am_H} {Q : am_Q} {res : Bool × am_H} (hr0 : ∀ {x1 : Int32} {h : am_H} {Q : am_Q} {res : Bool × am_H}, rc.1 h x1 = some res → Q (some (.int (am_b res.1))) res.2 → m_Law_readBracket (d + 3) [.ref 6, .int x1] h Q) (hr1 : ∀ {x1 : Int32} {x2 : Int32} {h : am_H} {Q : am_Q} {res : Bool × am_H}, rc.2.1 h x1 x2 = some res → Q (some (.int (am_b res.1))) res.2 → m_Law_readLevel (d + 3) [.ref 6, .int x1, .int x2] h Q) (hr2 : ∀ {x1 : Int32} {h : am_H} {Q : am_Q} {res : Bool × am_H}, rc.2.2.1 h x1 = some res → Q (some (.int (am_b res.1))) res.2 → m_Law_readOperand (d + 3) [.ref 6, .int x1] h Q) (hr3 : ∀ {x1 : Int32} {x2 : Int32} {h : am_H} {Q : am_Q} {res : Bool × am_H}, rc.2.2.2 h x1 x2 = some res → Q (some (.int (am_b res.1))) res.2 → m_Law_readPrefixed (d + 3) [.ref 6, .int x1, .int x2] h Q) (e : f_Law_readOperand_108 rc h x1 x2 = some res) (q : Q (some (.int (am_b res.1))) res.2) : am_W (X_Law_readOperand (d + 3 + 1)) 108 [some (.ref 6), some (.int x1), some (.int x2), some (.int x3)] [] h Q :=
  (am_bd e).elim fun p hp => b_Law_readOperand_108 (d := (d + 3)) (k := hr3 hp.1 (t_Law_readOperand_116 hr0 hr1 hr2 hr3 hp.2 q))
theorem t_Law_readOperand_105 {d : Nat} {rc : rc_Law_readBracket} {x1 : Int32} {x2 : Int32} {x3 : Int32} {y0 : Bool} {h : am_H} {Q : am_Q} {res : Bool × am_H} (hr0 : ∀ {x1 : Int32} {h : am_H} {Q : am_Q} {res : Bool × am_H}, rc.1 h x1 = some res → Q (some (.int (am_b res.1))) res.2 → m_Law_readBracket (d + 3) [.ref 6, .int x1] h Q) (hr1 : ∀ {x1 : Int32} {x2 : Int32} {h : am_H} {Q : am_Q} {res : Bool × am_H}, rc.2.1 h x1 x2 = some res → Q (some (.int (am_b res.1))) res.2 → m_Law_readLevel (d + 3) [.ref 6, .int x1, .int x2] h Q) (hr2 : ∀ {x1 : Int32} {h : am_H} {Q : am_Q} {res : Bool × am_H}, rc.2.2.1 h x1 = some res → Q (some (.int (am_b res.1))) res.2 → m_Law_readOperand (d + 3) [.ref 6, .int x1] h Q) (hr3 : ∀ {x1 : Int32} {x2 : Int32} {h : am_H} {Q : am_Q} {res : Bool × am_H}, rc.2.2.2 h x1 x2 = some res → Q (some (.int (am_b res.1))) res.2 → m_Law_readPrefixed (d + 3) [.ref 6, .int x1, .int x2] h Q) (e : f_Law_readOperand_105 rc h y0 = some res) (q : Q (some (.int (am_b res.1))) res.2) : am_W (X_Law_readOperand (d + 3 + 1)) 105 [some (.ref 6), some (.int x1), some (.int x2), some (.int x3)] [.int (am_b y0)] h Q :=
  b_Law_readOperand_105 (d := (d + 3 + 1)) (q := (am_rZpi (v := y0) e q))
theorem t_Law_readOperand_98 {d : Nat} {rc : rc_Law_readBracket} {x1 : Int32} {x2 : Int32} {x3 : Int32} {h : am_H} {Q : am_Q} {res : Bool × am_H} (hr0 : ∀ {x1 : Int32} {h : am_H} {Q : am_Q} {res : Bool × am_H}, rc.1 h x1 = some res → Q (some (.int (am_b res.1))) res.2 → m_Law_readBracket (d + 3) [.ref 6, .int x1] h Q) (hr1 : ∀ {x1 : Int32} {x2 : Int32} {h : am_H} {Q : am_Q} {res : Bool × am_H}, rc.2.1 h x1 x2 = some res → Q (some (.int (am_b res.1))) res.2 → m_Law_readLevel (d + 3) [.ref 6, .int x1, .int x2] h Q) (hr2 : ∀ {x1 : Int32} {h : am_H} {Q : am_Q} {res : Bool × am_H}, rc.2.2.1 h x1 = some res → Q (some (.int (am_b res.1))) res.2 → m_Law_readOperand (d + 3) [.ref 6, .int x1] h Q) (hr3 : ∀ {x1 : Int32} {x2 : Int32} {h : am_H} {Q : am_Q} {res : Bool × am_H}, rc.2.2.2 h x1 x2 = some res → Q (some (.int (am_b res.1))) res.2 → m_Law_readPrefixed (d + 3) [.ref 6, .int x1, .int x2] h Q) (e : f_Law_readOperand_98 rc h x1 = some res) (q : Q (some (.int (am_b res.1))) res.2) : am_W (X_Law_readOperand (d + 3 + 1)) 98 [some (.ref 6), some (.int x1), some (.int x2), some (.int x3)] [] h Q :=
  (am_bd e).elim fun p hp => b_Law_readOperand_98 (d := (d + 3)) (k := hr0 hp.1 (t_Law_readOperand_105 hr0 hr1 hr2 hr3 hp.2 q))
theorem t_Law_readOperand_82 {d : Nat} {rc : rc_Law_readBracket} {x1 : Int32} {x2 : Int32} {x3 : Int32} {h : am_H} {Q : am_Q} {res : Bool × am_H} (hr0 : ∀ {x1 : Int32} {h : am_H} {Q : am_Q} {res : Bool × am_H}, rc.1 h x1 = some res → Q (some (.int (am_b res.1))) res.2 → m_Law_readBracket (d + 3) [.ref 6, .int x1] h Q) (hr1 : ∀ {x1 : Int32} {x2 : Int32} {h : am_H} {Q : am_Q} {res : Bool × am_H}, rc.2.1 h x1 x2 = some res → Q (some (.int (am_b res.1))) res.2 → m_Law_readLevel (d + 3) [.ref 6, .int x1, .int x2] h Q) (hr2 : ∀ {x1 : Int32} {h : am_H} {Q : am_Q} {res : Bool × am_H}, rc.2.2.1 h x1 = some res → Q (some (.int (am_b res.1))) res.2 → m_Law_readOperand (d + 3) [.ref 6, .int x1] h Q) (hr3 : ∀ {x1 : Int32} {x2 : Int32} {h : am_H} {Q : am_Q} {res : Bool × am_H}, rc.2.2.2 h x1 x2 = some res → Q (some (.int (am_b res.1))) res.2 → m_Law_readPrefixed (d + 3) [.ref 6, .int x1, .int x2] h Q) (e : f_Law_readOperand_82 rc h x1 x2 = some res) (q : Q (some (.int (am_b res.1))) res.2) : am_W (X_Law_readOperand (d + 3 + 1)) 82 [some (.ref 6), some (.int x1), some (.int x2), some (.int x3)] [] h Q :=
  b_Law_readOperand_82 (d := (d + 3 + 1)) (kt := fun c => (t_Law_readOperand_108 hr0 hr1 hr2 hr3 (am_ife e c) q)) (kf := fun c => (t_Law_readOperand_98 hr0 hr1 hr2 hr3 (am_ift e c) q))
theorem t_Law_readOperand_74 {d : Nat} {rc : rc_Law_readBracket} {x1 : Int32} {x2 : Int32} {x3 : Int32} {h : am_H} {Q : am_Q} {res : Bool × am_H} (hr0 : ∀ {x1 : Int32} {h : am_H} {Q : am_Q} {res : Bool × am_H}, rc.1 h x1 = some res → Q (some (.int (am_b res.1))) res.2 → m_Law_readBracket (d + 3) [.ref 6, .int x1] h Q) (hr1 : ∀ {x1 : Int32} {x2 : Int32} {h : am_H} {Q : am_Q} {res : Bool × am_H}, rc.2.1 h x1 x2 = some res → Q (some (.int (am_b res.1))) res.2 → m_Law_readLevel (d + 3) [.ref 6, .int x1, .int x2] h Q) (hr2 : ∀ {x1 : Int32} {h : am_H} {Q : am_Q} {res : Bool × am_H}, rc.2.2.1 h x1 = some res → Q (some (.int (am_b res.1))) res.2 → m_Law_readOperand (d + 3) [.ref 6, .int x1] h Q) (hr3 : ∀ {x1 : Int32} {x2 : Int32} {h : am_H} {Q : am_Q} {res : Bool × am_H}, rc.2.2.2 h x1 x2 = some res → Q (some (.int (am_b res.1))) res.2 → m_Law_readPrefixed (d + 3) [.ref 6, .int x1, .int x2] h Q) (e : f_Law_readOperand_74 rc h x1 x2 = some res) (q : Q (some (.int (am_b res.1))) res.2) : am_W (X_Law_readOperand (d + 3 + 1)) 74 [some (.ref 6), some (.int x1), some (.int x2), some (.int x3)] [] h Q :=
  b_Law_readOperand_74 (d := (d + 3 + 1)) (kt := fun c => (t_Law_readOperand_82 hr0 hr1 hr2 hr3 (am_ift e c) q)) (kf := fun c => (t_Law_readOperand_80 hr0 hr1 hr2 hr3 (am_ife e c) q))
theorem t_Law_readOperand_68 {d : Nat} {rc : rc_Law_readBracket} {x1 : Int32} {x2 : Int32} {x3 : Int32} {h : am_H} {Q : am_Q} {res : Bool × am_H} (hr0 : ∀ {x1 : Int32} {h : am_H} {Q : am_Q} {res : Bool × am_H}, rc.1 h x1 = some res → Q (some (.int (am_b res.1))) res.2 → m_Law_readBracket (d + 3) [.ref 6, .int x1] h Q) (hr1 : ∀ {x1 : Int32} {x2 : Int32} {h : am_H} {Q : am_Q} {res : Bool × am_H}, rc.2.1 h x1 x2 = some res → Q (some (.int (am_b res.1))) res.2 → m_Law_readLevel (d + 3) [.ref 6, .int x1, .int x2] h Q) (hr2 : ∀ {x1 : Int32} {h : am_H} {Q : am_Q} {res : Bool × am_H}, rc.2.2.1 h x1 = some res → Q (some (.int (am_b res.1))) res.2 → m_Law_readOperand (d + 3) [.ref 6, .int x1] h Q) (hr3 : ∀ {x1 : Int32} {x2 : Int32} {h : am_H} {Q : am_Q} {res : Bool × am_H}, rc.2.2.2 h x1 x2 = some res → Q (some (.int (am_b res.1))) res.2 → m_Law_readPrefixed (d + 3) [.ref 6, .int x1, .int x2] h Q) (e : f_Law_readOperand_68 rc h x1 x2 = some res) (q : Q (some (.int (am_b res.1))) res.2) : am_W (X_Law_readOperand (d + 3 + 1)) 68 [some (.ref 6), some (.int x1), some (.int x2), some (.int x3)] [] h Q :=
  b_Law_readOperand_68 (d := (d + 3 + 1)) (kt := fun c => (t_Law_readOperand_82 hr0 hr1 hr2 hr3 (am_ift e c) q)) (kf := fun c => (t_Law_readOperand_74 hr0 hr1 hr2 hr3 (am_ife e c) q))
theorem t_Law_readOperand_62 {d : Nat} {rc : rc_Law_readBracket} {x1 : Int32} {x2 : Int32} {x3 : Int32} {h : am_H} {Q : am_Q} {res : Bool × am_H} (hr0 : ∀ {x1 : Int32} {h : am_H} {Q : am_Q} {res : Bool × am_H}, rc.1 h x1 = some res → Q (some (.int (am_b res.1))) res.2 → m_Law_readBracket (d + 3) [.ref 6, .int x1] h Q) (hr1 : ∀ {x1 : Int32} {x2 : Int32} {h : am_H} {Q : am_Q} {res : Bool × am_H}, rc.2.1 h x1 x2 = some res → Q (some (.int (am_b res.1))) res.2 → m_Law_readLevel (d + 3) [.ref 6, .int x1, .int x2] h Q) (hr2 : ∀ {x1 : Int32} {h : am_H} {Q : am_Q} {res : Bool × am_H}, rc.2.2.1 h x1 = some res → Q (some (.int (am_b res.1))) res.2 → m_Law_readOperand (d + 3) [.ref 6, .int x1] h Q) (hr3 : ∀ {x1 : Int32} {x2 : Int32} {h : am_H} {Q : am_Q} {res : Bool × am_H}, rc.2.2.2 h x1 x2 = some res → Q (some (.int (am_b res.1))) res.2 → m_Law_readPrefixed (d + 3) [.ref 6, .int x1, .int x2] h Q) (e : f_Law_readOperand_62 rc h x1 x2 = some res) (q : Q (some (.int (am_b res.1))) res.2) : am_W (X_Law_readOperand (d + 3 + 1)) 62 [some (.ref 6), some (.int x1), some (.int x2), some (.int x3)] [] h Q :=
  b_Law_readOperand_62 (d := (d + 3 + 1)) (kt := fun c => (t_Law_readOperand_82 hr0 hr1 hr2 hr3 (am_ift e c) q)) (kf := fun c => (t_Law_readOperand_68 hr0 hr1 hr2 hr3 (am_ife e c) q))
theorem t_Law_readOperand_56 {d : Nat} {rc : rc_Law_readBracket} {x1 : Int32} {x2 : Int32} {x3 : Int32} {h : am_H} {Q : am_Q} {res : Bool × am_H} (hr0 : ∀ {x1 : Int32} {h : am_H} {Q : am_Q} {res : Bool × am_H}, rc.1 h x1 = some res → Q (some (.int (am_b res.1))) res.2 → m_Law_readBracket (d + 3) [.ref 6, .int x1] h Q) (hr1 : ∀ {x1 : Int32} {x2 : Int32} {h : am_H} {Q : am_Q} {res : Bool × am_H}, rc.2.1 h x1 x2 = some res → Q (some (.int (am_b res.1))) res.2 → m_Law_readLevel (d + 3) [.ref 6, .int x1, .int x2] h Q) (hr2 : ∀ {x1 : Int32} {h : am_H} {Q : am_Q} {res : Bool × am_H}, rc.2.2.1 h x1 = some res → Q (some (.int (am_b res.1))) res.2 → m_Law_readOperand (d + 3) [.ref 6, .int x1] h Q) (hr3 : ∀ {x1 : Int32} {x2 : Int32} {h : am_H} {Q : am_Q} {res : Bool × am_H}, rc.2.2.2 h x1 x2 = some res → Q (some (.int (am_b res.1))) res.2 → m_Law_readPrefixed (d + 3) [.ref 6, .int x1, .int x2] h Q) (e : f_Law_readOperand_56 rc h x1 x2 = some res) (q : Q (some (.int (am_b res.1))) res.2) : am_W (X_Law_readOperand (d + 3 + 1)) 56 [some (.ref 6), some (.int x1), some (.int x2), some (.int x3)] [] h Q :=
  b_Law_readOperand_56 (d := (d + 3 + 1)) (kt := fun c => (t_Law_readOperand_80 hr0 hr1 hr2 hr3 (am_ift e c) q)) (kf := fun c => (t_Law_readOperand_62 hr0 hr1 hr2 hr3 (am_ife e c) q))
theorem t_Law_readOperand_54 {d : Nat} {rc : rc_Law_readBracket} {x1 : Int32} {x2 : Int32} {x3 : Int32} {h : am_H} {Q : am_Q} {res : Bool × am_H} (hr0 : ∀ {x1 : Int32} {h : am_H} {Q : am_Q} {res : Bool × am_H}, rc.1 h x1 = some res → Q (some (.int (am_b res.1))) res.2 → m_Law_readBracket (d + 3) [.ref 6, .int x1] h Q) (hr1 : ∀ {x1 : Int32} {x2 : Int32} {h : am_H} {Q : am_Q} {res : Bool × am_H}, rc.2.1 h x1 x2 = some res → Q (some (.int (am_b res.1))) res.2 → m_Law_readLevel (d + 3) [.ref 6, .int x1, .int x2] h Q) (hr2 : ∀ {x1 : Int32} {h : am_H} {Q : am_Q} {res : Bool × am_H}, rc.2.2.1 h x1 = some res → Q (some (.int (am_b res.1))) res.2 → m_Law_readOperand (d + 3) [.ref 6, .int x1] h Q) (hr3 : ∀ {x1 : Int32} {x2 : Int32} {h : am_H} {Q : am_Q} {res : Bool × am_H}, rc.2.2.2 h x1 x2 = some res → Q (some (.int (am_b res.1))) res.2 → m_Law_readPrefixed (d + 3) [.ref 6, .int x1, .int x2] h Q) (e : f_Law_readOperand_54 rc h = some res) (q : Q (some (.int (am_b res.1))) res.2) : am_W (X_Law_readOperand (d + 3 + 1)) 54 [some (.ref 6), some (.int x1), some (.int x2), some (.int x3)] [] h Q :=
  b_Law_readOperand_54 (d := (d + 3 + 1)) (q := (am_rZpi (v := true) e q))
theorem t_Law_readOperand_37 {d : Nat} {rc : rc_Law_readBracket} {x1 : Int32} {x2 : Int32} {x3 : Int32} {h : am_H} {Q : am_Q} {res : Bool × am_H} (hr0 : ∀ {x1 : Int32} {h : am_H} {Q : am_Q} {res : Bool × am_H}, rc.1 h x1 = some res → Q (some (.int (am_b res.1))) res.2 → m_Law_readBracket (d + 3) [.ref 6, .int x1] h Q) (hr1 : ∀ {x1 : Int32} {x2 : Int32} {h : am_H} {Q : am_Q} {res : Bool × am_H}, rc.2.1 h x1 x2 = some res → Q (some (.int (am_b res.1))) res.2 → m_Law_readLevel (d + 3) [.ref 6, .int x1, .int x2] h Q) (hr2 : ∀ {x1 : Int32} {h : am_H} {Q : am_Q} {res : Bool × am_H}, rc.2.2.1 h x1 = some res → Q (some (.int (am_b res.1))) res.2 → m_Law_readOperand (d + 3) [.ref 6, .int x1] h Q) (hr3 : ∀ {x1 : Int32} {x2 : Int32} {h : am_H} {Q : am_Q} {res : Bool × am_H}, rc.2.2.2 h x1 x2 = some res → Q (some (.int (am_b res.1))) res.2 → m_Law_readPrefixed (d + 3) [.ref 6, .int x1, .int x2] h Q) (e : f_Law_readOperand_37 rc h x3 = some res) (q : Q (some (.int (am_b res.1))) res.2) : am_W (X_Law_readOperand (d + 3 + 1)) 37 [some (.ref 6), some (.int x1), some (.int x2), some (.int x3)] [] h Q :=
  (am_bd e).elim fun p hp => b_Law_readOperand_37 (d := (d + 3)) (k := c_Law_write (d := d + 3) hp.1 (t_Law_readOperand_54 hr0 hr1 hr2 hr3 hp.2 q))
theorem t_Law_readOperand_32 {d : Nat} {rc : rc_Law_readBracket} {x1 : Int32} {x2 : Int32} {y0 : Int32} {h : am_H} {Q : am_Q} {res : Bool × am_H} (hr0 : ∀ {x1 : Int32} {h : am_H} {Q : am_Q} {res : Bool × am_H}, rc.1 h x1 = some res → Q (some (.int (am_b res.1))) res.2 → m_Law_readBracket (d + 3) [.ref 6, .int x1] h Q) (hr1 : ∀ {x1 : Int32} {x2 : Int32} {h : am_H} {Q : am_Q} {res : Bool × am_H}, rc.2.1 h x1 x2 = some res → Q (some (.int (am_b res.1))) res.2 → m_Law_readLevel (d + 3) [.ref 6, .int x1, .int x2] h Q) (hr2 : ∀ {x1 : Int32} {h : am_H} {Q : am_Q} {res : Bool × am_H}, rc.2.2.1 h x1 = some res → Q (some (.int (am_b res.1))) res.2 → m_Law_readOperand (d + 3) [.ref 6, .int x1] h Q) (hr3 : ∀ {x1 : Int32} {x2 : Int32} {h : am_H} {Q : am_Q} {res : Bool × am_H}, rc.2.2.2 h x1 x2 = some res → Q (some (.int (am_b res.1))) res.2 → m_Law_readPrefixed (d + 3) [.ref 6, .int x1, .int x2] h Q) (e : f_Law_readOperand_32 rc h x1 x2 y0 = some res) (q : Q (some (.int (am_b res.1))) res.2) : am_W (X_Law_readOperand (d + 3 + 1)) 32 [some (.ref 6), some (.int x1), some (.int x2), none] [.int y0] h Q :=
  b_Law_readOperand_32 (d := (d + 3 + 1)) (kt := fun c => (t_Law_readOperand_56 hr0 hr1 hr2 hr3 (am_ift e c) q)) (kf := fun c => (t_Law_readOperand_37 hr0 hr1 hr2 hr3 (am_ife e c) q))
theorem t_Law_readOperand_25 {d : Nat} {rc : rc_Law_readBracket} {x1 : Int32} {x2 : Int32} {h : am_H} {Q : am_Q} {res : Bool × am_H} (hr0 : ∀ {x1 : Int32} {h : am_H} {Q : am_Q} {res : Bool × am_H}, rc.1 h x1 = some res → Q (some (.int (am_b res.1))) res.2 → m_Law_readBracket (d + 3) [.ref 6, .int x1] h Q) (hr1 : ∀ {x1 : Int32} {x2 : Int32} {h : am_H} {Q : am_Q} {res : Bool × am_H}, rc.2.1 h x1 x2 = some res → Q (some (.int (am_b res.1))) res.2 → m_Law_readLevel (d + 3) [.ref 6, .int x1, .int x2] h Q) (hr2 : ∀ {x1 : Int32} {h : am_H} {Q : am_Q} {res : Bool × am_H}, rc.2.2.1 h x1 = some res → Q (some (.int (am_b res.1))) res.2 → m_Law_readOperand (d + 3) [.ref 6, .int x1] h Q) (hr3 : ∀ {x1 : Int32} {x2 : Int32} {h : am_H} {Q : am_Q} {res : Bool × am_H}, rc.2.2.2 h x1 x2 = some res → Q (some (.int (am_b res.1))) res.2 → m_Law_readPrefixed (d + 3) [.ref 6, .int x1, .int x2] h Q) (e : f_Law_readOperand_25 rc h x1 x2 = some res) (q : Q (some (.int (am_b res.1))) res.2) : am_W (X_Law_readOperand (d + 3 + 1)) 25 [some (.ref 6), some (.int x1), some (.int x2), none] [] h Q :=
  (am_bd e).elim fun p hp => b_Law_readOperand_25 (d := (d + 3)) (k := c_Str_indexOf_I (d := d) hp.1 (t_Law_readOperand_32 hr0 hr1 hr2 hr3 hp.2 q))
theorem t_Law_readOperand_21 {d : Nat} {rc : rc_Law_readBracket} {x1 : Int32} {x2 : Int32} {h : am_H} {Q : am_Q} {res : Bool × am_H} (hr0 : ∀ {x1 : Int32} {h : am_H} {Q : am_Q} {res : Bool × am_H}, rc.1 h x1 = some res → Q (some (.int (am_b res.1))) res.2 → m_Law_readBracket (d + 3) [.ref 6, .int x1] h Q) (hr1 : ∀ {x1 : Int32} {x2 : Int32} {h : am_H} {Q : am_Q} {res : Bool × am_H}, rc.2.1 h x1 x2 = some res → Q (some (.int (am_b res.1))) res.2 → m_Law_readLevel (d + 3) [.ref 6, .int x1, .int x2] h Q) (hr2 : ∀ {x1 : Int32} {h : am_H} {Q : am_Q} {res : Bool × am_H}, rc.2.2.1 h x1 = some res → Q (some (.int (am_b res.1))) res.2 → m_Law_readOperand (d + 3) [.ref 6, .int x1] h Q) (hr3 : ∀ {x1 : Int32} {x2 : Int32} {h : am_H} {Q : am_Q} {res : Bool × am_H}, rc.2.2.2 h x1 x2 = some res → Q (some (.int (am_b res.1))) res.2 → m_Law_readPrefixed (d + 3) [.ref 6, .int x1, .int x2] h Q) (e : f_Law_readOperand_21 rc h x1 x2 = some res) (q : Q (some (.int (am_b res.1))) res.2) : am_W (X_Law_readOperand (d + 3 + 1)) 21 [some (.ref 6), some (.int x1), some (.int x2), none] [] h Q :=
  b_Law_readOperand_21 (d := (d + 3 + 1)) (k := (t_Law_readOperand_32 hr0 hr1 hr2 hr3 e q))
theorem t_Law_readOperand_17 {d : Nat} {rc : rc_Law_readBracket} {x1 : Int32} {x2 : Int32} {h : am_H} {Q : am_Q} {res : Bool × am_H} (hr0 : ∀ {x1 : Int32} {h : am_H} {Q : am_Q} {res : Bool × am_H}, rc.1 h x1 = some res → Q (some (.int (am_b res.1))) res.2 → m_Law_readBracket (d + 3) [.ref 6, .int x1] h Q) (hr1 : ∀ {x1 : Int32} {x2 : Int32} {h : am_H} {Q : am_Q} {res : Bool × am_H}, rc.2.1 h x1 x2 = some res → Q (some (.int (am_b res.1))) res.2 → m_Law_readLevel (d + 3) [.ref 6, .int x1, .int x2] h Q) (hr2 : ∀ {x1 : Int32} {h : am_H} {Q : am_Q} {res : Bool × am_H}, rc.2.2.1 h x1 = some res → Q (some (.int (am_b res.1))) res.2 → m_Law_readOperand (d + 3) [.ref 6, .int x1] h Q) (hr3 : ∀ {x1 : Int32} {x2 : Int32} {h : am_H} {Q : am_Q} {res : Bool × am_H}, rc.2.2.2 h x1 x2 = some res → Q (some (.int (am_b res.1))) res.2 → m_Law_readPrefixed (d + 3) [.ref 6, .int x1, .int x2] h Q) (e : f_Law_readOperand_17 rc h x1 x2 = some res) (q : Q (some (.int (am_b res.1))) res.2) : am_W (X_Law_readOperand (d + 3 + 1)) 17 [some (.ref 6), some (.int x1), some (.int x2), none] [] h Q :=
  b_Law_readOperand_17 (d := (d + 3 + 1)) (kt := fun c => (t_Law_readOperand_25 hr0 hr1 hr2 hr3 (am_ift e c) q)) (kf := fun c => (t_Law_readOperand_21 hr0 hr1 hr2 hr3 (am_ife e c) q))
theorem t_Law_readOperand_16 {d : Nat} {rc : rc_Law_readBracket} {x1 : Int32} {x2 : Int32} {y0 : Bool} {h : am_H} {Q : am_Q} {res : Bool × am_H} (hr0 : ∀ {x1 : Int32} {h : am_H} {Q : am_Q} {res : Bool × am_H}, rc.1 h x1 = some res → Q (some (.int (am_b res.1))) res.2 → m_Law_readBracket (d + 3) [.ref 6, .int x1] h Q) (hr1 : ∀ {x1 : Int32} {x2 : Int32} {h : am_H} {Q : am_Q} {res : Bool × am_H}, rc.2.1 h x1 x2 = some res → Q (some (.int (am_b res.1))) res.2 → m_Law_readLevel (d + 3) [.ref 6, .int x1, .int x2] h Q) (hr2 : ∀ {x1 : Int32} {h : am_H} {Q : am_Q} {res : Bool × am_H}, rc.2.2.1 h x1 = some res → Q (some (.int (am_b res.1))) res.2 → m_Law_readOperand (d + 3) [.ref 6, .int x1] h Q) (hr3 : ∀ {x1 : Int32} {x2 : Int32} {h : am_H} {Q : am_Q} {res : Bool × am_H}, rc.2.2.2 h x1 x2 = some res → Q (some (.int (am_b res.1))) res.2 → m_Law_readPrefixed (d + 3) [.ref 6, .int x1, .int x2] h Q) (e : f_Law_readOperand_16 rc h y0 = some res) (q : Q (some (.int (am_b res.1))) res.2) : am_W (X_Law_readOperand (d + 3 + 1)) 16 [some (.ref 6), some (.int x1), some (.int x2), none] [.int (am_b y0)] h Q :=
  b_Law_readOperand_16 (d := (d + 3 + 1)) (q := (am_rZpi (v := y0) e q))
theorem t_Law_readOperand_12 {d : Nat} {rc : rc_Law_readBracket} {x1 : Int32} {x2 : Int32} {h : am_H} {Q : am_Q} {res : Bool × am_H} (hr0 : ∀ {x1 : Int32} {h : am_H} {Q : am_Q} {res : Bool × am_H}, rc.1 h x1 = some res → Q (some (.int (am_b res.1))) res.2 → m_Law_readBracket (d + 3) [.ref 6, .int x1] h Q) (hr1 : ∀ {x1 : Int32} {x2 : Int32} {h : am_H} {Q : am_Q} {res : Bool × am_H}, rc.2.1 h x1 x2 = some res → Q (some (.int (am_b res.1))) res.2 → m_Law_readLevel (d + 3) [.ref 6, .int x1, .int x2] h Q) (hr2 : ∀ {x1 : Int32} {h : am_H} {Q : am_Q} {res : Bool × am_H}, rc.2.2.1 h x1 = some res → Q (some (.int (am_b res.1))) res.2 → m_Law_readOperand (d + 3) [.ref 6, .int x1] h Q) (hr3 : ∀ {x1 : Int32} {x2 : Int32} {h : am_H} {Q : am_Q} {res : Bool × am_H}, rc.2.2.2 h x1 x2 = some res → Q (some (.int (am_b res.1))) res.2 → m_Law_readPrefixed (d + 3) [.ref 6, .int x1, .int x2] h Q) (e : f_Law_readOperand_12 rc h = some res) (q : Q (some (.int (am_b res.1))) res.2) : am_W (X_Law_readOperand (d + 3 + 1)) 12 [some (.ref 6), some (.int x1), some (.int x2), none] [] h Q :=
  (am_bd e).elim fun p hp => b_Law_readOperand_12 (d := (d + 3)) (k := c_Law_readNumber (d := d + 2) hp.1 (t_Law_readOperand_16 hr0 hr1 hr2 hr3 hp.2 q))
theorem t_Law_readOperand_9 {d : Nat} {rc : rc_Law_readBracket} {x1 : Int32} {x2 : Int32} {y0 : Bool} {h : am_H} {Q : am_Q} {res : Bool × am_H} (hr0 : ∀ {x1 : Int32} {h : am_H} {Q : am_Q} {res : Bool × am_H}, rc.1 h x1 = some res → Q (some (.int (am_b res.1))) res.2 → m_Law_readBracket (d + 3) [.ref 6, .int x1] h Q) (hr1 : ∀ {x1 : Int32} {x2 : Int32} {h : am_H} {Q : am_Q} {res : Bool × am_H}, rc.2.1 h x1 x2 = some res → Q (some (.int (am_b res.1))) res.2 → m_Law_readLevel (d + 3) [.ref 6, .int x1, .int x2] h Q) (hr2 : ∀ {x1 : Int32} {h : am_H} {Q : am_Q} {res : Bool × am_H}, rc.2.2.1 h x1 = some res → Q (some (.int (am_b res.1))) res.2 → m_Law_readOperand (d + 3) [.ref 6, .int x1] h Q) (hr3 : ∀ {x1 : Int32} {x2 : Int32} {h : am_H} {Q : am_Q} {res : Bool × am_H}, rc.2.2.2 h x1 x2 = some res → Q (some (.int (am_b res.1))) res.2 → m_Law_readPrefixed (d + 3) [.ref 6, .int x1, .int x2] h Q) (e : f_Law_readOperand_9 rc h x1 x2 y0 = some res) (q : Q (some (.int (am_b res.1))) res.2) : am_W (X_Law_readOperand (d + 3 + 1)) 9 [some (.ref 6), some (.int x1), some (.int x2), none] [.int (am_b y0)] h Q :=
  b_Law_readOperand_9 (d := (d + 3 + 1)) (kt := fun c => (t_Law_readOperand_17 hr0 hr1 hr2 hr3 (am_iff e (am_bz c)) q)) (kf := fun c => (t_Law_readOperand_12 hr0 hr1 hr2 hr3 (am_ift e (am_bn c)) q))
theorem t_Law_readOperand_4 {d : Nat} {rc : rc_Law_readBracket} {x1 : Int32} {y0 : Int32} {h : am_H} {Q : am_Q} {res : Bool × am_H} (hr0 : ∀ {x1 : Int32} {h : am_H} {Q : am_Q} {res : Bool × am_H}, rc.1 h x1 = some res → Q (some (.int (am_b res.1))) res.2 → m_Law_readBracket (d + 3) [.ref 6, .int x1] h Q) (hr1 : ∀ {x1 : Int32} {x2 : Int32} {h : am_H} {Q : am_Q} {res : Bool × am_H}, rc.2.1 h x1 x2 = some res → Q (some (.int (am_b res.1))) res.2 → m_Law_readLevel (d + 3) [.ref 6, .int x1, .int x2] h Q) (hr2 : ∀ {x1 : Int32} {h : am_H} {Q : am_Q} {res : Bool × am_H}, rc.2.2.1 h x1 = some res → Q (some (.int (am_b res.1))) res.2 → m_Law_readOperand (d + 3) [.ref 6, .int x1] h Q) (hr3 : ∀ {x1 : Int32} {x2 : Int32} {h : am_H} {Q : am_Q} {res : Bool × am_H}, rc.2.2.2 h x1 x2 = some res → Q (some (.int (am_b res.1))) res.2 → m_Law_readPrefixed (d + 3) [.ref 6, .int x1, .int x2] h Q) (e : f_Law_readOperand_4 rc h x1 y0 = some res) (q : Q (some (.int (am_b res.1))) res.2) : am_W (X_Law_readOperand (d + 3 + 1)) 4 [some (.ref 6), some (.int x1), none, none] [.int y0] h Q :=
  b_Law_readOperand_4 (d := (d + 3)) (k := c_Law_isDigit (d := d + 3) rfl (t_Law_readOperand_9 hr0 hr1 hr2 hr3 e q))
theorem t_Law_readOperand_0 {d : Nat} {rc : rc_Law_readBracket} {x1 : Int32} {h : am_H} {Q : am_Q} {res : Bool × am_H} (hr0 : ∀ {x1 : Int32} {h : am_H} {Q : am_Q} {res : Bool × am_H}, rc.1 h x1 = some res → Q (some (.int (am_b res.1))) res.2 → m_Law_readBracket (d + 3) [.ref 6, .int x1] h Q) (hr1 : ∀ {x1 : Int32} {x2 : Int32} {h : am_H} {Q : am_Q} {res : Bool × am_H}, rc.2.1 h x1 x2 = some res → Q (some (.int (am_b res.1))) res.2 → m_Law_readLevel (d + 3) [.ref 6, .int x1, .int x2] h Q) (hr2 : ∀ {x1 : Int32} {h : am_H} {Q : am_Q} {res : Bool × am_H}, rc.2.2.1 h x1 = some res → Q (some (.int (am_b res.1))) res.2 → m_Law_readOperand (d + 3) [.ref 6, .int x1] h Q) (hr3 : ∀ {x1 : Int32} {x2 : Int32} {h : am_H} {Q : am_Q} {res : Bool × am_H}, rc.2.2.2 h x1 x2 = some res → Q (some (.int (am_b res.1))) res.2 → m_Law_readPrefixed (d + 3) [.ref 6, .int x1, .int x2] h Q) (e : f_Law_readOperand_0 rc h x1 = some res) (q : Q (some (.int (am_b res.1))) res.2) : am_W (X_Law_readOperand (d + 3 + 1)) 0 [some (.ref 6), some (.int x1), none, none] [] h Q :=
  (am_bd e).elim fun p hp => b_Law_readOperand_0 (d := (d + 3)) (k := c_Law_next (d := d + 3) hp.1 (t_Law_readOperand_4 hr0 hr1 hr2 hr3 hp.2 q))
theorem t_Law_readPrefixed_27 {d : Nat} {rc : rc_Law_readBracket} {x1 : Int32} {x2 : Int32} {h : am_H} {Q : am_Q} {res : Bool × am_H} (hr0 : ∀ {x1 : Int32} {h : am_H} {Q : am_Q} {res : Bool × am_H}, rc.1 h x1 = some res → Q (some (.int (am_b res.1))) res.2 → m_Law_readBracket (d + 3) [.ref 6, .int x1] h Q) (hr1 : ∀ {x1 : Int32} {x2 : Int32} {h : am_H} {Q : am_Q} {res : Bool × am_H}, rc.2.1 h x1 x2 = some res → Q (some (.int (am_b res.1))) res.2 → m_Law_readLevel (d + 3) [.ref 6, .int x1, .int x2] h Q) (hr2 : ∀ {x1 : Int32} {h : am_H} {Q : am_Q} {res : Bool × am_H}, rc.2.2.1 h x1 = some res → Q (some (.int (am_b res.1))) res.2 → m_Law_readOperand (d + 3) [.ref 6, .int x1] h Q) (hr3 : ∀ {x1 : Int32} {x2 : Int32} {h : am_H} {Q : am_Q} {res : Bool × am_H}, rc.2.2.2 h x1 x2 = some res → Q (some (.int (am_b res.1))) res.2 → m_Law_readPrefixed (d + 3) [.ref 6, .int x1, .int x2] h Q) (e : f_Law_readPrefixed_27 rc h = some res) (q : Q (some (.int (am_b res.1))) res.2) : am_W (X_Law_readPrefixed (d + 3 + 1)) 27 [some (.ref 6), some (.int x1), some (.int x2)] [] h Q :=
  b_Law_readPrefixed_27 (d := (d + 3 + 1)) (q := (am_rZpi (v := true) e q))
theorem t_Law_readPrefixed_24 {d : Nat} {rc : rc_Law_readBracket} {x1 : Int32} {x2 : Int32} {y1 : Int32} {h : am_H} {Q : am_Q} {res : Bool × am_H} (hr0 : ∀ {x1 : Int32} {h : am_H} {Q : am_Q} {res : Bool × am_H}, rc.1 h x1 = some res → Q (some (.int (am_b res.1))) res.2 → m_Law_readBracket (d + 3) [.ref 6, .int x1] h Q) (hr1 : ∀ {x1 : Int32} {x2 : Int32} {h : am_H} {Q : am_Q} {res : Bool × am_H}, rc.2.1 h x1 x2 = some res → Q (some (.int (am_b res.1))) res.2 → m_Law_readLevel (d + 3) [.ref 6, .int x1, .int x2] h Q) (hr2 : ∀ {x1 : Int32} {h : am_H} {Q : am_Q} {res : Bool × am_H}, rc.2.2.1 h x1 = some res → Q (some (.int (am_b res.1))) res.2 → m_Law_readOperand (d + 3) [.ref 6, .int x1] h Q) (hr3 : ∀ {x1 : Int32} {x2 : Int32} {h : am_H} {Q : am_Q} {res : Bool × am_H}, rc.2.2.2 h x1 x2 = some res → Q (some (.int (am_b res.1))) res.2 → m_Law_readPrefixed (d + 3) [.ref 6, .int x1, .int x2] h Q) (e : f_Law_readPrefixed_24 rc h y1 = some res) (q : Q (some (.int (am_b res.1))) res.2) : am_W (X_Law_readPrefixed (d + 3 + 1)) 24 [some (.ref 6), some (.int x1), some (.int x2)] [.int y1, .ref 6] h Q :=
  (am_bd e).elim fun p hp => b_Law_readPrefixed_24 (d := (d + 3)) (k := c_Law_write (d := d + 3) hp.1 (t_Law_readPrefixed_27 hr0 hr1 hr2 hr3 hp.2 q))
theorem t_Law_readPrefixed_22 {d : Nat} {rc : rc_Law_readBracket} {x1 : Int32} {x2 : Int32} {h : am_H} {Q : am_Q} {res : Bool × am_H} (hr0 : ∀ {x1 : Int32} {h : am_H} {Q : am_Q} {res : Bool × am_H}, rc.1 h x1 = some res → Q (some (.int (am_b res.1))) res.2 → m_Law_readBracket (d + 3) [.ref 6, .int x1] h Q) (hr1 : ∀ {x1 : Int32} {x2 : Int32} {h : am_H} {Q : am_Q} {res : Bool × am_H}, rc.2.1 h x1 x2 = some res → Q (some (.int (am_b res.1))) res.2 → m_Law_readLevel (d + 3) [.ref 6, .int x1, .int x2] h Q) (hr2 : ∀ {x1 : Int32} {h : am_H} {Q : am_Q} {res : Bool × am_H}, rc.2.2.1 h x1 = some res → Q (some (.int (am_b res.1))) res.2 → m_Law_readOperand (d + 3) [.ref 6, .int x1] h Q) (hr3 : ∀ {x1 : Int32} {x2 : Int32} {h : am_H} {Q : am_Q} {res : Bool × am_H}, rc.2.2.2 h x1 x2 = some res → Q (some (.int (am_b res.1))) res.2 → m_Law_readPrefixed (d + 3) [.ref 6, .int x1, .int x2] h Q) (e : f_Law_readPrefixed_22 rc h = some res) (q : Q (some (.int (am_b res.1))) res.2) : am_W (X_Law_readPrefixed (d + 3 + 1)) 22 [some (.ref 6), some (.int x1), some (.int x2)] [.ref 6] h Q :=
  b_Law_readPrefixed_22 (d := (d + 3 + 1)) (k := (t_Law_readPrefixed_24 hr0 hr1 hr2 hr3 e q))
theorem t_Law_readPrefixed_17 {d : Nat} {rc : rc_Law_readBracket} {x1 : Int32} {x2 : Int32} {h : am_H} {Q : am_Q} {res : Bool × am_H} (hr0 : ∀ {x1 : Int32} {h : am_H} {Q : am_Q} {res : Bool × am_H}, rc.1 h x1 = some res → Q (some (.int (am_b res.1))) res.2 → m_Law_readBracket (d + 3) [.ref 6, .int x1] h Q) (hr1 : ∀ {x1 : Int32} {x2 : Int32} {h : am_H} {Q : am_Q} {res : Bool × am_H}, rc.2.1 h x1 x2 = some res → Q (some (.int (am_b res.1))) res.2 → m_Law_readLevel (d + 3) [.ref 6, .int x1, .int x2] h Q) (hr2 : ∀ {x1 : Int32} {h : am_H} {Q : am_Q} {res : Bool × am_H}, rc.2.2.1 h x1 = some res → Q (some (.int (am_b res.1))) res.2 → m_Law_readOperand (d + 3) [.ref 6, .int x1] h Q) (hr3 : ∀ {x1 : Int32} {x2 : Int32} {h : am_H} {Q : am_Q} {res : Bool × am_H}, rc.2.2.2 h x1 x2 = some res → Q (some (.int (am_b res.1))) res.2 → m_Law_readPrefixed (d + 3) [.ref 6, .int x1, .int x2] h Q) (e : f_Law_readPrefixed_17 rc h = some res) (q : Q (some (.int (am_b res.1))) res.2) : am_W (X_Law_readPrefixed (d + 3 + 1)) 17 [some (.ref 6), some (.int x1), some (.int x2)] [.ref 6] h Q :=
  b_Law_readPrefixed_17 (d := (d + 3 + 1)) (k := (t_Law_readPrefixed_24 hr0 hr1 hr2 hr3 e q))
theorem t_Law_readPrefixed_10 {d : Nat} {rc : rc_Law_readBracket} {x1 : Int32} {x2 : Int32} {h : am_H} {Q : am_Q} {res : Bool × am_H} (hr0 : ∀ {x1 : Int32} {h : am_H} {Q : am_Q} {res : Bool × am_H}, rc.1 h x1 = some res → Q (some (.int (am_b res.1))) res.2 → m_Law_readBracket (d + 3) [.ref 6, .int x1] h Q) (hr1 : ∀ {x1 : Int32} {x2 : Int32} {h : am_H} {Q : am_Q} {res : Bool × am_H}, rc.2.1 h x1 x2 = some res → Q (some (.int (am_b res.1))) res.2 → m_Law_readLevel (d + 3) [.ref 6, .int x1, .int x2] h Q) (hr2 : ∀ {x1 : Int32} {h : am_H} {Q : am_Q} {res : Bool × am_H}, rc.2.2.1 h x1 = some res → Q (some (.int (am_b res.1))) res.2 → m_Law_readOperand (d + 3) [.ref 6, .int x1] h Q) (hr3 : ∀ {x1 : Int32} {x2 : Int32} {h : am_H} {Q : am_Q} {res : Bool × am_H}, rc.2.2.2 h x1 x2 = some res → Q (some (.int (am_b res.1))) res.2 → m_Law_readPrefixed (d + 3) [.ref 6, .int x1, .int x2] h Q) (e : f_Law_readPrefixed_10 rc h x1 = some res) (q : Q (some (.int (am_b res.1))) res.2) : am_W (X_Law_readPrefixed (d + 3 + 1)) 10 [some (.ref 6), some (.int x1), some (.int x2)] [] h Q :=
  b_Law_readPrefixed_10 (d := (d + 3 + 1)) (kt := fun c => (t_Law_readPrefixed_22 hr0 hr1 hr2 hr3 (am_ife e c) q)) (kf := fun c => (t_Law_readPrefixed_17 hr0 hr1 hr2 hr3 (am_ift e c) q))
theorem t_Law_readPrefixed_8 {d : Nat} {rc : rc_Law_readBracket} {x1 : Int32} {x2 : Int32} {h : am_H} {Q : am_Q} {res : Bool × am_H} (hr0 : ∀ {x1 : Int32} {h : am_H} {Q : am_Q} {res : Bool × am_H}, rc.1 h x1 = some res → Q (some (.int (am_b res.1))) res.2 → m_Law_readBracket (d + 3) [.ref 6, .int x1] h Q) (hr1 : ∀ {x1 : Int32} {x2 : Int32} {h : am_H} {Q : am_Q} {res : Bool × am_H}, rc.2.1 h x1 x2 = some res → Q (some (.int (am_b res.1))) res.2 → m_Law_readLevel (d + 3) [.ref 6, .int x1, .int x2] h Q) (hr2 : ∀ {x1 : Int32} {h : am_H} {Q : am_Q} {res : Bool × am_H}, rc.2.2.1 h x1 = some res → Q (some (.int (am_b res.1))) res.2 → m_Law_readOperand (d + 3) [.ref 6, .int x1] h Q) (hr3 : ∀ {x1 : Int32} {x2 : Int32} {h : am_H} {Q : am_Q} {res : Bool × am_H}, rc.2.2.2 h x1 x2 = some res → Q (some (.int (am_b res.1))) res.2 → m_Law_readPrefixed (d + 3) [.ref 6, .int x1, .int x2] h Q) (e : f_Law_readPrefixed_8 rc h = some res) (q : Q (some (.int (am_b res.1))) res.2) : am_W (X_Law_readPrefixed (d + 3 + 1)) 8 [some (.ref 6), some (.int x1), some (.int x2)] [] h Q :=
  b_Law_readPrefixed_8 (d := (d + 3 + 1)) (q := (am_rZpi (v := false) e q))
theorem t_Law_readPrefixed_5 {d : Nat} {rc : rc_Law_readBracket} {x1 : Int32} {x2 : Int32} {y0 : Bool} {h : am_H} {Q : am_Q} {res : Bool × am_H} (hr0 : ∀ {x1 : Int32} {h : am_H} {Q : am_Q} {res : Bool × am_H}, rc.1 h x1 = some res → Q (some (.int (am_b res.1))) res.2 → m_Law_readBracket (d + 3) [.ref 6, .int x1] h Q) (hr1 : ∀ {x1 : Int32} {x2 : Int32} {h : am_H} {Q : am_Q} {res : Bool × am_H}, rc.2.1 h x1 x2 = some res → Q (some (.int (am_b res.1))) res.2 → m_Law_readLevel (d + 3) [.ref 6, .int x1, .int x2] h Q) (hr2 : ∀ {x1 : Int32} {h : am_H} {Q : am_Q} {res : Bool × am_H}, rc.2.2.1 h x1 = some res → Q (some (.int (am_b res.1))) res.2 → m_Law_readOperand (d + 3) [.ref 6, .int x1] h Q) (hr3 : ∀ {x1 : Int32} {x2 : Int32} {h : am_H} {Q : am_Q} {res : Bool × am_H}, rc.2.2.2 h x1 x2 = some res → Q (some (.int (am_b res.1))) res.2 → m_Law_readPrefixed (d + 3) [.ref 6, .int x1, .int x2] h Q) (e : f_Law_readPrefixed_5 rc h x1 y0 = some res) (q : Q (some (.int (am_b res.1))) res.2) : am_W (X_Law_readPrefixed (d + 3 + 1)) 5 [some (.ref 6), some (.int x1), some (.int x2)] [.int (am_b y0)] h Q :=
  b_Law_readPrefixed_5 (d := (d + 3 + 1)) (kt := fun c => (t_Law_readPrefixed_10 hr0 hr1 hr2 hr3 (am_ift e (am_bn c)) q)) (kf := fun c => (t_Law_readPrefixed_8 hr0 hr1 hr2 hr3 (am_iff e (am_bz c)) q))
theorem t_Law_readPrefixed_0 {d : Nat} {rc : rc_Law_readBracket} {x1 : Int32} {x2 : Int32} {h : am_H} {Q : am_Q} {res : Bool × am_H} (hr0 : ∀ {x1 : Int32} {h : am_H} {Q : am_Q} {res : Bool × am_H}, rc.1 h x1 = some res → Q (some (.int (am_b res.1))) res.2 → m_Law_readBracket (d + 3) [.ref 6, .int x1] h Q) (hr1 : ∀ {x1 : Int32} {x2 : Int32} {h : am_H} {Q : am_Q} {res : Bool × am_H}, rc.2.1 h x1 x2 = some res → Q (some (.int (am_b res.1))) res.2 → m_Law_readLevel (d + 3) [.ref 6, .int x1, .int x2] h Q) (hr2 : ∀ {x1 : Int32} {h : am_H} {Q : am_Q} {res : Bool × am_H}, rc.2.2.1 h x1 = some res → Q (some (.int (am_b res.1))) res.2 → m_Law_readOperand (d + 3) [.ref 6, .int x1] h Q) (hr3 : ∀ {x1 : Int32} {x2 : Int32} {h : am_H} {Q : am_Q} {res : Bool × am_H}, rc.2.2.2 h x1 x2 = some res → Q (some (.int (am_b res.1))) res.2 → m_Law_readPrefixed (d + 3) [.ref 6, .int x1, .int x2] h Q) (e : f_Law_readPrefixed_0 rc h x1 x2 = some res) (q : Q (some (.int (am_b res.1))) res.2) : am_W (X_Law_readPrefixed (d + 3 + 1)) 0 [some (.ref 6), some (.int x1), some (.int x2)] [] h Q :=
  (am_bd e).elim fun p hp => b_Law_readPrefixed_0 (d := (d + 3)) (k := hr2 hp.1 (t_Law_readPrefixed_5 hr0 hr1 hr2 hr3 hp.2 q))
theorem s_Law_readBracket : ∀ (n : Nat) {d D : Nat}, D = d + n + 3 → (∀ {x1 : Int32} {h : am_H} {Q : am_Q} {res : Bool × am_H}, (g_Law_readBracket n).1 h x1 = some res → Q (some (.int (am_b res.1))) res.2 → m_Law_readBracket D [.ref 6, .int x1] h Q) ∧ (∀ {x1 : Int32} {x2 : Int32} {h : am_H} {Q : am_Q} {res : Bool × am_H}, (g_Law_readBracket n).2.1 h x1 x2 = some res → Q (some (.int (am_b res.1))) res.2 → m_Law_readLevel D [.ref 6, .int x1, .int x2] h Q) ∧ (∀ {x1 : Int32} {h : am_H} {Q : am_Q} {res : Bool × am_H}, (g_Law_readBracket n).2.2.1 h x1 = some res → Q (some (.int (am_b res.1))) res.2 → m_Law_readOperand D [.ref 6, .int x1] h Q) ∧ (∀ {x1 : Int32} {x2 : Int32} {h : am_H} {Q : am_Q} {res : Bool × am_H}, (g_Law_readBracket n).2.2.2 h x1 x2 = some res → Q (some (.int (am_b res.1))) res.2 → m_Law_readPrefixed D [.ref 6, .int x1, .int x2] h Q) := by
  intro n
  induction n with
  | zero =>
    intro d D hD
    refine ⟨?_, ?_, ?_, ?_⟩
    · intro x1 h Q res  e q; exact am_nn e
    · intro x1 x2 h Q res  e q; exact am_nn e
    · intro x1 h Q res  e q; exact am_nn e
    · intro x1 x2 h Q res  e q; exact am_nn e
  | succ n ih =>
    intro d D hD
    obtain rfl : D = d + n + 3 + 1 := by omega
    obtain ⟨i0, i1, i2, i3⟩ := ih (d := d) rfl
    refine ⟨?_, ?_, ?_, ?_⟩
    · intro x1 h Q res  e q; exact e_Law_readBracket (t_Law_readBracket_0 (d := d + n) i0 i1 i2 i3 e q)
    · intro x1 x2 h Q res  e q; exact e_Law_readLevel (t_Law_readLevel_0 (d := d + n) i0 i1 i2 i3 e q)
    · intro x1 h Q res  e q; exact e_Law_readOperand (t_Law_readOperand_0 (d := d + n) i0 i1 i2 i3 e q)
    · intro x1 x2 h Q res  e q; exact e_Law_readPrefixed (t_Law_readPrefixed_0 (d := d + n) i0 i1 i2 i3 e q)

theorem c_Law_readBracket {d : Nat} {x1 : Int32} {h : am_H} {Q : am_Q} {res : Bool × am_H} (e : f_Law_readBracket h x1 = some res) (q : Q (some (.int (am_b res.1))) res.2) : m_Law_readBracket (d + 67) [.ref 6, .int x1] h Q :=
  (s_Law_readBracket 64 (d := d) (D := d + 67) rfl).1 e q
theorem c_Law_readLevel {d : Nat} {x1 : Int32} {x2 : Int32} {h : am_H} {Q : am_Q} {res : Bool × am_H} (e : f_Law_readLevel h x1 x2 = some res) (q : Q (some (.int (am_b res.1))) res.2) : m_Law_readLevel (d + 67) [.ref 6, .int x1, .int x2] h Q :=
  (s_Law_readBracket 64 (d := d) (D := d + 67) rfl).2.1 e q
theorem c_Law_readOperand {d : Nat} {x1 : Int32} {h : am_H} {Q : am_Q} {res : Bool × am_H} (e : f_Law_readOperand h x1 = some res) (q : Q (some (.int (am_b res.1))) res.2) : m_Law_readOperand (d + 67) [.ref 6, .int x1] h Q :=
  (s_Law_readBracket 64 (d := d) (D := d + 67) rfl).2.2.1 e q
theorem c_Law_readPrefixed {d : Nat} {x1 : Int32} {x2 : Int32} {h : am_H} {Q : am_Q} {res : Bool × am_H} (e : f_Law_readPrefixed h x1 x2 = some res) (q : Q (some (.int (am_b res.1))) res.2) : m_Law_readPrefixed (d + 67) [.ref 6, .int x1, .int x2] h Q :=
  (s_Law_readBracket 64 (d := d) (D := d + 67) rfl).2.2.2 e q
