theorem d_Law_readLine_0 : decode prog_6_method_8_code 0 = .ok (.aload_n 0, 1) := by decide +kernel
theorem d_Law_readLine_1 : decode prog_6_method_8_code 1 = .ok (.iconst 0, 1) := by decide +kernel
theorem d_Law_readLine_2 : decode prog_6_method_8_code 2 = .ok (.iconst 0, 1) := by decide +kernel
theorem d_Law_readLine_3 : decode prog_6_method_8_code 3 = .ok (.invokevirtual 57, 3) := by decide +kernel
theorem d_Law_readLine_6 : decode prog_6_method_8_code 6 = .ok (.ifCond .ne 5, 3) := by decide +kernel
theorem d_Law_readLine_9 : decode prog_6_method_8_code 9 = .ok (.iconst 0, 1) := by decide +kernel
theorem d_Law_readLine_10 : decode prog_6_method_8_code 10 = .ok (.ireturn, 1) := by decide +kernel
theorem d_Law_readLine_11 : decode prog_6_method_8_code 11 = .ok (.aload_n 0, 1) := by decide +kernel
theorem d_Law_readLine_12 : decode prog_6_method_8_code 12 = .ok (.invokevirtual 53, 3) := by decide +kernel
theorem d_Law_readLine_15 : decode prog_6_method_8_code 15 = .ok (.bipush 63, 2) := by decide +kernel
theorem d_Law_readLine_17 : decode prog_6_method_8_code 17 = .ok (.if_icmp .ne 30, 3) := by decide +kernel
theorem d_Law_readLine_20 : decode prog_6_method_8_code 20 = .ok (.aload_n 0, 1) := by decide +kernel
theorem d_Law_readLine_21 : decode prog_6_method_8_code 21 = .ok (.dup, 1) := by decide +kernel
theorem d_Law_readLine_22 : decode prog_6_method_8_code 22 = .ok (.getfield 31, 3) := by decide +kernel
theorem d_Law_readLine_25 : decode prog_6_method_8_code 25 = .ok (.iconst 1, 1) := by decide +kernel
theorem d_Law_readLine_26 : decode prog_6_method_8_code 26 = .ok (.iadd, 1) := by decide +kernel
theorem d_Law_readLine_27 : decode prog_6_method_8_code 27 = .ok (.putfield 31, 3) := by decide +kernel
theorem d_Law_readLine_30 : decode prog_6_method_8_code 30 = .ok (.aload_n 0, 1) := by decide +kernel
theorem d_Law_readLine_31 : decode prog_6_method_8_code 31 = .ok (.bipush (-31), 2) := by decide +kernel
theorem d_Law_readLine_33 : decode prog_6_method_8_code 33 = .ok (.invokevirtual 61, 3) := by decide +kernel
theorem d_Law_readLine_36 : decode prog_6_method_8_code 36 = .ok (.aload_n 0, 1) := by decide +kernel
theorem d_Law_readLine_37 : decode prog_6_method_8_code 37 = .ok (.iconst 0, 1) := by decide +kernel
theorem d_Law_readLine_38 : decode prog_6_method_8_code 38 = .ok (.iconst 0, 1) := by decide +kernel
theorem d_Law_readLine_39 : decode prog_6_method_8_code 39 = .ok (.invokevirtual 57, 3) := by decide +kernel
theorem d_Law_readLine_42 : decode prog_6_method_8_code 42 = .ok (.ifCond .ne 5, 3) := by decide +kernel
theorem d_Law_readLine_45 : decode prog_6_method_8_code 45 = .ok (.iconst 0, 1) := by decide +kernel
theorem d_Law_readLine_46 : decode prog_6_method_8_code 46 = .ok (.ireturn, 1) := by decide +kernel
theorem d_Law_readLine_47 : decode prog_6_method_8_code 47 = .ok (.aload_n 0, 1) := by decide +kernel
theorem d_Law_readLine_48 : decode prog_6_method_8_code 48 = .ok (.bipush (-32), 2) := by decide +kernel
theorem d_Law_readLine_50 : decode prog_6_method_8_code 50 = .ok (.invokevirtual 61, 3) := by decide +kernel
theorem d_Law_readLine_53 : decode prog_6_method_8_code 53 = .ok (.iconst 1, 1) := by decide +kernel
theorem d_Law_readLine_54 : decode prog_6_method_8_code 54 = .ok (.ireturn, 1) := by decide +kernel
theorem b_Law_readLine_0 {d : Nat} {h : am_H} {Q : am_Q} (k : m_Law_readLevel d [.ref 6, .int 0, .int 0] h (fun r hh => am_W (X_Law_readLine (d + 1)) 6 [some (.ref 6)] (r.toList ++ []) hh Q)) : am_W (X_Law_readLine (d + 1)) 0 [some (.ref 6)] [] h Q :=
  am_aload_n d_Law_readLine_0 rfl (i := 0) rfl <|
    am_iconst (v := 0) d_Law_readLine_1 (by decide) <|
    am_iconst (v := 0) d_Law_readLine_2 (by decide) <|
    am_callV (vs := [.int 0, .int 0]) (st := []) (k := 6) (ci := 2) rfl d_Law_readLine_3 rfl rfl w_541 w_543 w_6 w_86 w_544 p_Law_readLevel (Nat.le_of_ble_eq_true rfl) (Nat.le_of_ble_eq_true rfl) rfl k
theorem b_Law_readLine_6 {d : Nat} {y0 : Bool} {h : am_H} {Q : am_Q} (kt : ¬ (am_b y0) = 0 → am_W (X_Law_readLine d) 11 [some (.ref 6)] [] h Q) (kf : (am_b y0) = 0 → am_W (X_Law_readLine d) 9 [some (.ref 6)] [] h Q) : am_W (X_Law_readLine d) 6 [some (.ref 6)] [.int (am_b y0)] h Q :=
  am_if_ne (tgt := 11) d_Law_readLine_6 (by decide) kt kf
theorem b_Law_readLine_9 {d : Nat} {h : am_H} {Q : am_Q} (q : Q (some (.int 0)) h) : am_W (X_Law_readLine d) 9 [some (.ref 6)] [] h Q :=
  am_iconst (v := 0) d_Law_readLine_9 (by decide) <|
    am_zret (ty := .boolean) rfl (by decide) d_Law_readLine_10 q
theorem b_Law_readLine_11 {d : Nat} {h : am_H} {Q : am_Q} (k : m_Law_next d [.ref 6] h (fun r hh => am_W (X_Law_readLine (d + 1)) 15 [some (.ref 6)] (r.toList ++ []) hh Q)) : am_W (X_Law_readLine (d + 1)) 11 [some (.ref 6)] [] h Q :=
  am_aload_n d_Law_readLine_11 rfl (i := 0) rfl <|
    am_callV (vs := []) (st := []) (k := 6) (ci := 2) rfl d_Law_readLine_12 rfl rfl w_549 w_551 w_8 w_86 w_552 p_Law_next (Nat.le_of_ble_eq_true rfl) (Nat.le_of_ble_eq_true rfl) rfl k
theorem b_Law_readLine_15 {d : Nat} {y0 : Int32} {h : am_H} {Q : am_Q} (kt : ¬ y0 = 63 → am_W (X_Law_readLine d) 47 [some (.ref 6)] [] h Q) (kf : y0 = 63 → am_W (X_Law_readLine d) 20 [some (.ref 6)] [] h Q) : am_W (X_Law_readLine d) 15 [some (.ref 6)] [.int y0] h Q :=
  am_bipush (v := 63) d_Law_readLine_15 (by decide) <|
    am_icmp_ne (tgt := 47) d_Law_readLine_17 (by decide) kt kf
theorem b_Law_readLine_20 {d : Nat} {h : am_H} {Q : am_Q} (k : m_Law_write d [.ref 6, .int (-31)] (am_pI h 6 6 ((h.1 6 6) + 1)) (fun r hh => am_W (X_Law_readLine (d + 1)) 36 [some (.ref 6)] (r.toList ++ []) hh Q)) : am_W (X_Law_readLine (d + 1)) 20 [some (.ref 6)] [] h Q :=
  am_aload_n d_Law_readLine_20 rfl (i := 0) rfl <|
    am_dupR d_Law_readLine_21 <|
    am_getI (ci := 2) (i := 6) rfl rfl rfl (Nat.le_of_ble_eq_true rfl) w_166 d_Law_readLine_22 <|
    am_iconst (v := 1) d_Law_readLine_25 (by decide) <|
    am_iadd d_Law_readLine_26 <|
    am_putI (ci := 2) (i := 6) rfl rfl rfl (Nat.le_of_ble_eq_true rfl) w_166 rfl rfl rfl d_Law_readLine_27 <|
    am_aload_n d_Law_readLine_30 rfl (i := 0) rfl <|
    am_bipush (v := (-31)) d_Law_readLine_31 (by decide) <|
    am_callV (vs := [.int (-31)]) (st := []) (k := 6) (ci := 2) rfl d_Law_readLine_33 rfl rfl w_560 w_562 w_10 w_86 w_563 p_Law_write (Nat.le_of_ble_eq_true rfl) (Nat.le_of_ble_eq_true rfl) rfl k
theorem b_Law_readLine_36 {d : Nat} {h : am_H} {Q : am_Q} (k : m_Law_readLevel d [.ref 6, .int 0, .int 0] h (fun r hh => am_W (X_Law_readLine (d + 1)) 42 [some (.ref 6)] (r.toList ++ []) hh Q)) : am_W (X_Law_readLine (d + 1)) 36 [some (.ref 6)] [] h Q :=
  am_aload_n d_Law_readLine_36 rfl (i := 0) rfl <|
    am_iconst (v := 0) d_Law_readLine_37 (by decide) <|
    am_iconst (v := 0) d_Law_readLine_38 (by decide) <|
    am_callV (vs := [.int 0, .int 0]) (st := []) (k := 6) (ci := 2) rfl d_Law_readLine_39 rfl rfl w_541 w_543 w_6 w_86 w_544 p_Law_readLevel (Nat.le_of_ble_eq_true rfl) (Nat.le_of_ble_eq_true rfl) rfl k
theorem b_Law_readLine_42 {d : Nat} {y0 : Bool} {h : am_H} {Q : am_Q} (kt : ¬ (am_b y0) = 0 → am_W (X_Law_readLine d) 47 [some (.ref 6)] [] h Q) (kf : (am_b y0) = 0 → am_W (X_Law_readLine d) 45 [some (.ref 6)] [] h Q) : am_W (X_Law_readLine d) 42 [some (.ref 6)] [.int (am_b y0)] h Q :=
  am_if_ne (tgt := 47) d_Law_readLine_42 (by decide) kt kf
theorem b_Law_readLine_45 {d : Nat} {h : am_H} {Q : am_Q} (q : Q (some (.int 0)) h) : am_W (X_Law_readLine d) 45 [some (.ref 6)] [] h Q :=
  am_iconst (v := 0) d_Law_readLine_45 (by decide) <|
    am_zret (ty := .boolean) rfl (by decide) d_Law_readLine_46 q
theorem b_Law_readLine_47 {d : Nat} {h : am_H} {Q : am_Q} (k : m_Law_write d [.ref 6, .int (-32)] h (fun r hh => am_W (X_Law_readLine (d + 1)) 53 [some (.ref 6)] (r.toList ++ []) hh Q)) : am_W (X_Law_readLine (d + 1)) 47 [some (.ref 6)] [] h Q :=
  am_aload_n d_Law_readLine_47 rfl (i := 0) rfl <|
    am_bipush (v := (-32)) d_Law_readLine_48 (by decide) <|
    am_callV (vs := [.int (-32)]) (st := []) (k := 6) (ci := 2) rfl d_Law_readLine_50 rfl rfl w_560 w_562 w_10 w_86 w_563 p_Law_write (Nat.le_of_ble_eq_true rfl) (Nat.le_of_ble_eq_true rfl) rfl k
theorem b_Law_readLine_53 {d : Nat} {h : am_H} {Q : am_Q} (q : Q (some (.int 1)) h) : am_W (X_Law_readLine d) 53 [some (.ref 6)] [] h Q :=
  am_iconst (v := 1) d_Law_readLine_53 (by decide) <|
    am_zret (ty := .boolean) rfl (by decide) d_Law_readLine_54 q
theorem t_Law_readLine_53 {d : Nat} {h : am_H} {Q : am_Q} {res : Bool × am_H} (e : f_Law_readLine_53 h = some res) (q : Q (some (.int (am_b res.1))) res.2) : am_W (X_Law_readLine (d + 68)) 53 [some (.ref 6)] [] h Q :=
  b_Law_readLine_53 (d := (d + 68)) (q := (am_rZpi (v := true) e q))
theorem t_Law_readLine_47 {d : Nat} {h : am_H} {Q : am_Q} {res : Bool × am_H} (e : f_Law_readLine_47 h = some res) (q : Q (some (.int (am_b res.1))) res.2) : am_W (X_Law_readLine (d + 68)) 47 [some (.ref 6)] [] h Q :=
  (am_bd e).elim fun p hp => b_Law_readLine_47 (d := (d + 67)) (k := c_Law_write (d := d + 67) hp.1 (t_Law_readLine_53 hp.2 q))
theorem t_Law_readLine_45 {d : Nat} {h : am_H} {Q : am_Q} {res : Bool × am_H} (e : f_Law_readLine_45 h = some res) (q : Q (some (.int (am_b res.1))) res.2) : am_W (X_Law_readLine (d + 68)) 45 [some (.ref 6)] [] h Q :=
  b_Law_readLine_45 (d := (d + 68)) (q := (am_rZpi (v := false) e q))
theorem t_Law_readLine_42 {d : Nat} {y0 : Bool} {h : am_H} {Q : am_Q} {res : Bool × am_H} (e : f_Law_readLine_42 h y0 = some res) (q : Q (some (.int (am_b res.1))) res.2) : am_W (X_Law_readLine (d + 68)) 42 [some (.ref 6)] [.int (am_b y0)] h Q :=
  b_Law_readLine_42 (d := (d + 68)) (kt := fun c => (t_Law_readLine_47 (am_ift e (am_bn c)) q)) (kf := fun c => (t_Law_readLine_45 (am_iff e (am_bz c)) q))
theorem t_Law_readLine_36 {d : Nat} {h : am_H} {Q : am_Q} {res : Bool × am_H} (e : f_Law_readLine_36 h = some res) (q : Q (some (.int (am_b res.1))) res.2) : am_W (X_Law_readLine (d + 68)) 36 [some (.ref 6)] [] h Q :=
  (am_bd e).elim fun p hp => b_Law_readLine_36 (d := (d + 67)) (k := c_Law_readLevel (d := d) hp.1 (t_Law_readLine_42 hp.2 q))
theorem t_Law_readLine_20 {d : Nat} {h : am_H} {Q : am_Q} {res : Bool × am_H} (e : f_Law_readLine_20 h = some res) (q : Q (some (.int (am_b res.1))) res.2) : am_W (X_Law_readLine (d + 68)) 20 [some (.ref 6)] [] h Q :=
  (am_bd e).elim fun p hp => b_Law_readLine_20 (d := (d + 67)) (k := c_Law_write (d := d + 67) hp.1 (t_Law_readLine_36 hp.2 q))
theorem t_Law_readLine_15 {d : Nat} {y0 : Int32} {h : am_H} {Q : am_Q} {res : Bool × am_H} (e : f_Law_readLine_15 h y0 = some res) (q : Q (some (.int (am_b res.1))) res.2) : am_W (X_Law_readLine (d + 68)) 15 [some (.ref 6)] [.int y0] h Q :=
  b_Law_readLine_15 (d := (d + 68)) (kt := fun c => (t_Law_readLine_47 (am_ife e c) q)) (kf := fun c => (t_Law_readLine_20 (am_ift e c) q))
theorem t_Law_readLine_11 {d : Nat} {h : am_H} {Q : am_Q} {res : Bool × am_H} (e : f_Law_readLine_11 h = some res) (q : Q (some (.int (am_b res.1))) res.2) : am_W (X_Law_readLine (d + 68)) 11 [some (.ref 6)] [] h Q :=
  (am_bd e).elim fun p hp => b_Law_readLine_11 (d := (d + 67)) (k := c_Law_next (d := d + 67) hp.1 (t_Law_readLine_15 hp.2 q))
theorem t_Law_readLine_9 {d : Nat} {h : am_H} {Q : am_Q} {res : Bool × am_H} (e : f_Law_readLine_9 h = some res) (q : Q (some (.int (am_b res.1))) res.2) : am_W (X_Law_readLine (d + 68)) 9 [some (.ref 6)] [] h Q :=
  b_Law_readLine_9 (d := (d + 68)) (q := (am_rZpi (v := false) e q))
theorem t_Law_readLine_6 {d : Nat} {y0 : Bool} {h : am_H} {Q : am_Q} {res : Bool × am_H} (e : f_Law_readLine_6 h y0 = some res) (q : Q (some (.int (am_b res.1))) res.2) : am_W (X_Law_readLine (d + 68)) 6 [some (.ref 6)] [.int (am_b y0)] h Q :=
  b_Law_readLine_6 (d := (d + 68)) (kt := fun c => (t_Law_readLine_11 (am_ift e (am_bn c)) q)) (kf := fun c => (t_Law_readLine_9 (am_iff e (am_bz c)) q))
theorem t_Law_readLine_0 {d : Nat} {h : am_H} {Q : am_Q} {res : Bool × am_H} (e : f_Law_readLine h = some res) (q : Q (some (.int (am_b res.1))) res.2) : am_W (X_Law_readLine (d + 68)) 0 [some (.ref 6)] [] h Q :=
  (am_bd e).elim fun p hp => b_Law_readLine_0 (d := (d + 67)) (k := c_Law_readLevel (d := d) hp.1 (t_Law_readLine_6 hp.2 q))
theorem c_Law_readLine {d : Nat} {h : am_H} {Q : am_Q} {res : Bool × am_H} (e : f_Law_readLine h = some res) (q : Q (some (.int (am_b res.1))) res.2) : m_Law_readLine (d + 68) [.ref 6] h Q :=
  e_Law_readLine (t_Law_readLine_0 e q)
theorem d_Law_readLines_0 : decode prog_6_method_7_code 0 = .ok (.iconst 0, 1) := by decide +kernel
theorem d_Law_readLines_1 : decode prog_6_method_7_code 1 = .ok (.istore_n 1, 1) := by decide +kernel
theorem d_Law_readLines_2 : decode prog_6_method_7_code 2 = .ok (.iload_n 1, 1) := by decide +kernel
theorem d_Law_readLines_3 : decode prog_6_method_7_code 3 = .ok (.bipush 120, 2) := by decide +kernel
theorem d_Law_readLines_5 : decode prog_6_method_7_code 5 = .ok (.if_icmp .gt 52, 3) := by decide +kernel
theorem d_Law_readLines_8 : decode prog_6_method_7_code 8 = .ok (.aload_n 0, 1) := by decide +kernel
theorem d_Law_readLines_9 : decode prog_6_method_7_code 9 = .ok (.invokevirtual 50, 3) := by decide +kernel
theorem d_Law_readLines_12 : decode prog_6_method_7_code 12 = .ok (.ifCond .ne 5, 3) := by decide +kernel
theorem d_Law_readLines_15 : decode prog_6_method_7_code 15 = .ok (.iconst 0, 1) := by decide +kernel
theorem d_Law_readLines_16 : decode prog_6_method_7_code 16 = .ok (.ireturn, 1) := by decide +kernel
theorem d_Law_readLines_17 : decode prog_6_method_7_code 17 = .ok (.aload_n 0, 1) := by decide +kernel
theorem d_Law_readLines_18 : decode prog_6_method_7_code 18 = .ok (.getfield 31, 3) := by decide +kernel
theorem d_Law_readLines_21 : decode prog_6_method_7_code 21 = .ok (.aload_n 0, 1) := by decide +kernel
theorem d_Law_readLines_22 : decode prog_6_method_7_code 22 = .ok (.getfield 27, 3) := by decide +kernel
theorem d_Law_readLines_25 : decode prog_6_method_7_code 25 = .ok (.if_icmp .lt 5, 3) := by decide +kernel
theorem d_Law_readLines_28 : decode prog_6_method_7_code 28 = .ok (.iconst 1, 1) := by decide +kernel
theorem d_Law_readLines_29 : decode prog_6_method_7_code 29 = .ok (.ireturn, 1) := by decide +kernel
theorem d_Law_readLines_30 : decode prog_6_method_7_code 30 = .ok (.aload_n 0, 1) := by decide +kernel
theorem d_Law_readLines_31 : decode prog_6_method_7_code 31 = .ok (.invokevirtual 53, 3) := by decide +kernel
theorem d_Law_readLines_34 : decode prog_6_method_7_code 34 = .ok (.bipush 59, 2) := by decide +kernel
theorem d_Law_readLines_36 : decode prog_6_method_7_code 36 = .ok (.if_icmp .eq 5, 3) := by decide +kernel
theorem d_Law_readLines_39 : decode prog_6_method_7_code 39 = .ok (.iconst 0, 1) := by decide +kernel
theorem d_Law_readLines_40 : decode prog_6_method_7_code 40 = .ok (.ireturn, 1) := by decide +kernel
theorem d_Law_readLines_41 : decode prog_6_method_7_code 41 = .ok (.aload_n 0, 1) := by decide +kernel
theorem d_Law_readLines_42 : decode prog_6_method_7_code 42 = .ok (.dup, 1) := by decide +kernel
theorem d_Law_readLines_43 : decode prog_6_method_7_code 43 = .ok (.getfield 31, 3) := by decide +kernel
theorem d_Law_readLines_46 : decode prog_6_method_7_code 46 = .ok (.iconst 1, 1) := by decide +kernel
theorem d_Law_readLines_47 : decode prog_6_method_7_code 47 = .ok (.iadd, 1) := by decide +kernel
theorem d_Law_readLines_48 : decode prog_6_method_7_code 48 = .ok (.putfield 31, 3) := by decide +kernel
theorem d_Law_readLines_51 : decode prog_6_method_7_code 51 = .ok (.iinc 1 1, 3) := by decide +kernel
theorem d_Law_readLines_54 : decode prog_6_method_7_code 54 = .ok (.goto (-52), 3) := by decide +kernel
theorem d_Law_readLines_57 : decode prog_6_method_7_code 57 = .ok (.iconst 0, 1) := by decide +kernel
theorem d_Law_readLines_58 : decode prog_6_method_7_code 58 = .ok (.ireturn, 1) := by decide +kernel
theorem b_Law_readLines_0 {d : Nat} {h : am_H} {Q : am_Q} (k : am_W (X_Law_readLines d) 2 [some (.ref 6), some (.int 0)] [] h Q) : am_W (X_Law_readLines d) 0 [some (.ref 6), none] [] h Q :=
  am_iconst (v := 0) d_Law_readLines_0 (by decide) <|
    am_istore_n (ls' := [some (.ref 6), some (.int 0)]) d_Law_readLines_1 rfl (Nat.le_of_ble_eq_true rfl) rfl <|
    k
theorem b_Law_readLines_2 {d : Nat} {x1 : Int32} {h : am_H} {Q : am_Q} (kt : 120 < x1 → am_W (X_Law_readLines d) 57 [some (.ref 6), some (.int x1)] [] h Q) (kf : ¬ 120 < x1 → am_W (X_Law_readLines d) 8 [some (.ref 6), some (.int x1)] [] h Q) : am_W (X_Law_readLines d) 2 [some (.ref 6), some (.int x1)] [] h Q :=
  am_iload_n d_Law_readLines_2 rfl (i := 1) rfl <|
    am_bipush (v := 120) d_Law_readLines_3 (by decide) <|
    am_icmp_gt (tgt := 57) d_Law_readLines_5 (by decide) kt kf
theorem b_Law_readLines_8 {d : Nat} {x1 : Int32} {h : am_H} {Q : am_Q} (k : m_Law_readLine d [.ref 6] h (fun r hh => am_W (X_Law_readLines (d + 1)) 12 [some (.ref 6), some (.int x1)] (r.toList ++ []) hh Q)) : am_W (X_Law_readLines (d + 1)) 8 [some (.ref 6), some (.int x1)] [] h Q :=
  am_aload_n d_Law_readLines_8 rfl (i := 0) rfl <|
    am_callV (vs := []) (st := []) (k := 6) (ci := 2) rfl d_Law_readLines_9 rfl rfl w_537 w_539 w_5 w_86 w_540 p_Law_readLine (Nat.le_of_ble_eq_true rfl) (Nat.le_of_ble_eq_true rfl) rfl k
theorem b_Law_readLines_12 {d : Nat} {x1 : Int32} {y0 : Bool} {h : am_H} {Q : am_Q} (kt : ¬ (am_b y0) = 0 → am_W (X_Law_readLines d) 17 [some (.ref 6), some (.int x1)] [] h Q) (kf : (am_b y0) = 0 → am_W (X_Law_readLines d) 15 [some (.ref 6), some (.int x1)] [] h Q) : am_W (X_Law_readLines d) 12 [some (.ref 6), some (.int x1)] [.int (am_b y0)] h Q :=
  am_if_ne (tgt := 17) d_Law_readLines_12 (by decide) kt kf
theorem b_Law_readLines_15 {d : Nat} {x1 : Int32} {h : am_H} {Q : am_Q} (q : Q (some (.int 0)) h) : am_W (X_Law_readLines d) 15 [some (.ref 6), some (.int x1)] [] h Q :=
  am_iconst (v := 0) d_Law_readLines_15 (by decide) <|
    am_zret (ty := .boolean) rfl (by decide) d_Law_readLines_16 q
theorem b_Law_readLines_17 {d : Nat} {x1 : Int32} {h : am_H} {Q : am_Q} (kt : (h.1 6 6) < (h.1 6 5) → am_W (X_Law_readLines d) 30 [some (.ref 6), some (.int x1)] [] h Q) (kf : ¬ (h.1 6 6) < (h.1 6 5) → am_W (X_Law_readLines d) 28 [some (.ref 6), some (.int x1)] [] h Q) : am_W (X_Law_readLines d) 17 [some (.ref 6), some (.int x1)] [] h Q :=
  am_aload_n d_Law_readLines_17 rfl (i := 0) rfl <|
    am_getI (ci := 2) (i := 6) rfl rfl rfl (Nat.le_of_ble_eq_true rfl) w_166 d_Law_readLines_18 <|
    am_aload_n d_Law_readLines_21 rfl (i := 0) rfl <|
    am_getI (ci := 2) (i := 5) rfl rfl rfl (Nat.le_of_ble_eq_true rfl) w_165 d_Law_readLines_22 <|
    am_icmp_lt (tgt := 30) d_Law_readLines_25 (by decide) kt kf
theorem b_Law_readLines_28 {d : Nat} {x1 : Int32} {h : am_H} {Q : am_Q} (q : Q (some (.int 1)) h) : am_W (X_Law_readLines d) 28 [some (.ref 6), some (.int x1)] [] h Q :=
  am_iconst (v := 1) d_Law_readLines_28 (by decide) <|
    am_zret (ty := .boolean) rfl (by decide) d_Law_readLines_29 q
theorem b_Law_readLines_30 {d : Nat} {x1 : Int32} {h : am_H} {Q : am_Q} (k : m_Law_next d [.ref 6] h (fun r hh => am_W (X_Law_readLines (d + 1)) 34 [some (.ref 6), some (.int x1)] (r.toList ++ []) hh Q)) : am_W (X_Law_readLines (d + 1)) 30 [some (.ref 6), some (.int x1)] [] h Q :=
  am_aload_n d_Law_readLines_30 rfl (i := 0) rfl <|
    am_callV (vs := []) (st := []) (k := 6) (ci := 2) rfl d_Law_readLines_31 rfl rfl w_549 w_551 w_8 w_86 w_552 p_Law_next (Nat.le_of_ble_eq_true rfl) (Nat.le_of_ble_eq_true rfl) rfl k
theorem b_Law_readLines_34 {d : Nat} {x1 : Int32} {y0 : Int32} {h : am_H} {Q : am_Q} (kt : y0 = 59 → am_W (X_Law_readLines d) 41 [some (.ref 6), some (.int x1)] [] h Q) (kf : ¬ y0 = 59 → am_W (X_Law_readLines d) 39 [some (.ref 6), some (.int x1)] [] h Q) : am_W (X_Law_readLines d) 34 [some (.ref 6), some (.int x1)] [.int y0] h Q :=
  am_bipush (v := 59) d_Law_readLines_34 (by decide) <|
    am_icmp_eq (tgt := 41) d_Law_readLines_36 (by decide) kt kf
theorem b_Law_readLines_39 {d : Nat} {x1 : Int32} {h : am_H} {Q : am_Q} (q : Q (some (.int 0)) h) : am_W (X_Law_readLines d) 39 [some (.ref 6), some (.int x1)] [] h Q :=
  am_iconst (v := 0) d_Law_readLines_39 (by decide) <|
    am_zret (ty := .boolean) rfl (by decide) d_Law_readLines_40 q
theorem b_Law_readLines_41 {d : Nat} {x1 : Int32} {h : am_H} {Q : am_Q} (k : am_W (X_Law_readLines d) 2 [some (.ref 6), some (.int (x1 + 1))] [] (am_pI h 6 6 ((h.1 6 6) + 1)) Q) : am_W (X_Law_readLines d) 41 [some (.ref 6), some (.int x1)] [] h Q :=
  am_aload_n d_Law_readLines_41 rfl (i := 0) rfl <|
    am_dupR d_Law_readLines_42 <|
    am_getI (ci := 2) (i := 6) rfl rfl rfl (Nat.le_of_ble_eq_true rfl) w_166 d_Law_readLines_43 <|
    am_iconst (v := 1) d_Law_readLines_46 (by decide) <|
    am_iadd d_Law_readLines_47 <|
    am_putI (ci := 2) (i := 6) rfl rfl rfl (Nat.le_of_ble_eq_true rfl) w_166 rfl rfl rfl d_Law_readLines_48 <|
    am_iinc (v := (x1 + 1)) (ls' := [some (.ref 6), some (.int (x1 + 1))]) d_Law_readLines_51 rfl rfl (Nat.le_of_ble_eq_true rfl) rfl <|
    am_goto (tgt := 2) d_Law_readLines_54 (by decide) k
theorem b_Law_readLines_57 {d : Nat} {x1 : Int32} {h : am_H} {Q : am_Q} (q : Q (some (.int 0)) h) : am_W (X_Law_readLines d) 57 [some (.ref 6), some (.int x1)] [] h Q :=
  am_iconst (v := 0) d_Law_readLines_57 (by decide) <|
    am_zret (ty := .boolean) rfl (by decide) d_Law_readLines_58 q
theorem t_Law_readLines_57 {d : Nat} {x1 : Int32} {h : am_H} {Q : am_Q} {res : Bool × am_H} (e : f_Law_readLines_57 h = some res) (q : Q (some (.int (am_b res.1))) res.2) : am_W (X_Law_readLines (d + 69)) 57 [some (.ref 6), some (.int x1)] [] h Q :=
  b_Law_readLines_57 (d := (d + 69)) (q := (am_rZpi (v := false) e q))
theorem t_Law_readLines_41 {d : Nat} {k2 : am_H → Int32 → Option (Bool × am_H)} {x1 : Int32} {h : am_H} {Q : am_Q} {res : Bool × am_H} (hk2 : ∀ (x1 : Int32) (h : am_H), k2 h x1 = some res → am_W (X_Law_readLines (d + 69)) 2 [some (.ref 6), some (.int x1)] [] h Q) (e : f_Law_readLines_41 k2 h x1 = some res) (q : Q (some (.int (am_b res.1))) res.2) : am_W (X_Law_readLines (d + 69)) 41 [some (.ref 6), some (.int x1)] [] h Q :=
  b_Law_readLines_41 (d := (d + 69)) (k := (hk2 _ _ e))
theorem t_Law_readLines_39 {d : Nat} {x1 : Int32} {h : am_H} {Q : am_Q} {res : Bool × am_H} (e : f_Law_readLines_39 h = some res) (q : Q (some (.int (am_b res.1))) res.2) : am_W (X_Law_readLines (d + 69)) 39 [some (.ref 6), some (.int x1)] [] h Q :=
  b_Law_readLines_39 (d := (d + 69)) (q := (am_rZpi (v := false) e q))
theorem t_Law_readLines_34 {d : Nat} {k2 : am_H → Int32 → Option (Bool × am_H)} {x1 : Int32} {y0 : Int32} {h : am_H} {Q : am_Q} {res : Bool × am_H} (hk2 : ∀ (x1 : Int32) (h : am_H), k2 h x1 = some res → am_W (X_Law_readLines (d + 69)) 2 [some (.ref 6), some (.int x1)] [] h Q) (e : f_Law_readLines_34 k2 h x1 y0 = some res) (q : Q (some (.int (am_b res.1))) res.2) : am_W (X_Law_readLines (d + 69)) 34 [some (.ref 6), some (.int x1)] [.int y0] h Q :=
  b_Law_readLines_34 (d := (d + 69)) (kt := fun c => (t_Law_readLines_41 hk2 (am_ift e c) q)) (kf := fun c => (t_Law_readLines_39 (am_ife e c) q))
theorem t_Law_readLines_30 {d : Nat} {k2 : am_H → Int32 → Option (Bool × am_H)} {x1 : Int32} {h : am_H} {Q : am_Q} {res : Bool × am_H} (hk2 : ∀ (x1 : Int32) (h : am_H), k2 h x1 = some res → am_W (X_Law_readLines (d + 69)) 2 [some (.ref 6), some (.int x1)] [] h Q) (e : f_Law_readLines_30 k2 h x1 = some res) (q : Q (some (.int (am_b res.1))) res.2) : am_W (X_Law_readLines (d + 69)) 30 [some (.ref 6), some (.int x1)] [] h Q :=
  (am_bd e).elim fun p hp => b_Law_readLines_30 (d := (d + 68)) (k := c_Law_next (d := d + 68) hp.1 (t_Law_readLines_34 hk2 hp.2 q))
theorem t_Law_readLines_28 {d : Nat} {x1 : Int32} {h : am_H} {Q : am_Q} {res : Bool × am_H} (e : f_Law_readLines_28 h = some res) (q : Q (some (.int (am_b res.1))) res.2) : am_W (X_Law_readLines (d + 69)) 28 [some (.ref 6), some (.int x1)] [] h Q :=
  b_Law_readLines_28 (d := (d + 69)) (q := (am_rZpi (v := true) e q))
theorem t_Law_readLines_17 {d : Nat} {k2 : am_H → Int32 → Option (Bool × am_H)} {x1 : Int32} {h : am_H} {Q : am_Q} {res : Bool × am_H} (hk2 : ∀ (x1 : Int32) (h : am_H), k2 h x1 = some res → am_W (X_Law_readLines (d + 69)) 2 [some (.ref 6), some (.int x1)] [] h Q) (e : f_Law_readLines_17 k2 h x1 = some res) (q : Q (some (.int (am_b res.1))) res.2) : am_W (X_Law_readLines (d + 69)) 17 [some (.ref 6), some (.int x1)] [] h Q :=
  b_Law_readLines_17 (d := (d + 69)) (kt := fun c => (t_Law_readLines_30 hk2 (am_ift e c) q)) (kf := fun c => (t_Law_readLines_28 (am_ife e c) q))
theorem t_Law_readLines_15 {d : Nat} {x1 : Int32} {h : am_H} {Q : am_Q} {res : Bool × am_H} (e : f_Law_readLines_15 h = some res) (q : Q (some (.int (am_b res.1))) res.2) : am_W (X_Law_readLines (d + 69)) 15 [some (.ref 6), some (.int x1)] [] h Q :=
  b_Law_readLines_15 (d := (d + 69)) (q := (am_rZpi (v := false) e q))
theorem t_Law_readLines_12 {d : Nat} {k2 : am_H → Int32 → Option (Bool × am_H)} {x1 : Int32} {y0 : Bool} {h : am_H} {Q : am_Q} {res : Bool × am_H} (hk2 : ∀ (x1 : Int32) (h : am_H), k2 h x1 = some res → am_W (X_Law_readLines (d + 69)) 2 [some (.ref 6), some (.int x1)] [] h Q) (e : f_Law_readLines_12 k2 h x1 y0 = some res) (q : Q (some (.int (am_b res.1))) res.2) : am_W (X_Law_readLines (d + 69)) 12 [some (.ref 6), some (.int x1)] [.int (am_b y0)] h Q :=
  b_Law_readLines_12 (d := (d + 69)) (kt := fun c => (t_Law_readLines_17 hk2 (am_ift e (am_bn c)) q)) (kf := fun c => (t_Law_readLines_15 (am_iff e (am_bz c)) q))
theorem t_Law_readLines_8 {d : Nat} {k2 : am_H → Int32 → Option (Bool × am_H)} {x1 : Int32} {h : am_H} {Q : am_Q} {res : Bool × am_H} (hk2 : ∀ (x1 : Int32) (h : am_H), k2 h x1 = some res → am_W (X_Law_readLines (d + 69)) 2 [some (.ref 6), some (.int x1)] [] h Q) (e : f_Law_readLines_8 k2 h x1 = some res) (q : Q (some (.int (am_b res.1))) res.2) : am_W (X_Law_readLines (d + 69)) 8 [some (.ref 6), some (.int x1)] [] h Q :=
  (am_bd e).elim fun p hp => b_Law_readLines_8 (d := (d + 68)) (k := c_Law_readLine (d := d) hp.1 (t_Law_readLines_12 hk2 hp.2 q))
theorem t_Law_readLines_2 {d : Nat} {k2 : am_H → Int32 → Option (Bool × am_H)} {x1 : Int32} {h : am_H} {Q : am_Q} {res : Bool × am_H} (hk2 : ∀ (x1 : Int32) (h : am_H), k2 h x1 = some res → am_W (X_Law_readLines (d + 69)) 2 [some (.ref 6), some (.int x1)] [] h Q) (e : f_Law_readLines_2 k2 h x1 = some res) (q : Q (some (.int (am_b res.1))) res.2) : am_W (X_Law_readLines (d + 69)) 2 [some (.ref 6), some (.int x1)] [] h Q :=
  b_Law_readLines_2 (d := (d + 69)) (kt := fun c => (t_Law_readLines_57 (am_ift e c) q)) (kf := fun c => (t_Law_readLines_8 hk2 (am_ife e c) q))
theorem t_Law_readLines_2_l {d : Nat} {Q : am_Q} {res : Bool × am_H} (q : Q (some (.int (am_b res.1))) res.2) : ∀ (n : Nat) (x1 : Int32) (h : am_H), f_Law_readLines_2_l n h x1 = some res → am_W (X_Law_readLines (d + 69)) 2 [some (.ref 6), some (.int x1)] [] h Q := by
  intro n
  induction n with
  | zero => intro x1 h e; exact am_nn e
  | succ n ih => intro x1 h e; exact t_Law_readLines_2 (fun x1 h e => ih x1 h  e) e q
theorem t_Law_readLines_0 {d : Nat} {h : am_H} {Q : am_Q} {res : Bool × am_H} (e : f_Law_readLines h = some res) (q : Q (some (.int (am_b res.1))) res.2) : am_W (X_Law_readLines (d + 69)) 0 [some (.ref 6), none] [] h Q :=
  b_Law_readLines_0 (d := (d + 69)) (k := (t_Law_readLines_2_l q am_fu _ _ e))
theorem c_Law_readLines {d : Nat} {h : am_H} {Q : am_Q} {res : Bool × am_H} (e : f_Law_readLines h = some res) (q : Q (some (.int (am_b res.1))) res.2) : m_Law_readLines (d + 69) [.ref 6] h Q :=
  e_Law_readLines (t_Law_readLines_0 e q)
theorem d_Law_readTape_0 : decode prog_6_method_5_code 0 = .ok (.aload_n 0, 1) := by decide +kernel
theorem d_Law_readTape_1 : decode prog_6_method_5_code 1 = .ok (.iconst 0, 1) := by decide +kernel
theorem d_Law_readTape_2 : decode prog_6_method_5_code 2 = .ok (.putfield 31, 3) := by decide +kernel
theorem d_Law_readTape_5 : decode prog_6_method_5_code 5 = .ok (.aload_n 0, 1) := by decide +kernel
theorem d_Law_readTape_6 : decode prog_6_method_5_code 6 = .ok (.iconst 0, 1) := by decide +kernel
theorem d_Law_readTape_7 : decode prog_6_method_5_code 7 = .ok (.putfield 34, 3) := by decide +kernel
theorem d_Law_readTape_10 : decode prog_6_method_5_code 10 = .ok (.aload_n 0, 1) := by decide +kernel
theorem d_Law_readTape_11 : decode prog_6_method_5_code 11 = .ok (.invokevirtual 40, 3) := by decide +kernel
theorem d_Law_readTape_14 : decode prog_6_method_5_code 14 = .ok (.istore_n 1, 1) := by decide +kernel
theorem d_Law_readTape_15 : decode prog_6_method_5_code 15 = .ok (.aload_n 0, 1) := by decide +kernel
theorem d_Law_readTape_16 : decode prog_6_method_5_code 16 = .ok (.iconst 0, 1) := by decide +kernel
theorem d_Law_readTape_17 : decode prog_6_method_5_code 17 = .ok (.putfield 27, 3) := by decide +kernel
theorem d_Law_readTape_20 : decode prog_6_method_5_code 20 = .ok (.iload_n 1, 1) := by decide +kernel
theorem d_Law_readTape_21 : decode prog_6_method_5_code 21 = .ok (.ifCond .ne 11, 3) := by decide +kernel
theorem d_Law_readTape_24 : decode prog_6_method_5_code 24 = .ok (.bipush (-100), 2) := by decide +kernel
theorem d_Law_readTape_26 : decode prog_6_method_5_code 26 = .ok (.aload_n 0, 1) := by decide +kernel
theorem d_Law_readTape_27 : decode prog_6_method_5_code 27 = .ok (.getfield 31, 3) := by decide +kernel
theorem d_Law_readTape_30 : decode prog_6_method_5_code 30 = .ok (.isub, 1) := by decide +kernel
theorem d_Law_readTape_31 : decode prog_6_method_5_code 31 = .ok (.ireturn, 1) := by decide +kernel
theorem d_Law_readTape_32 : decode prog_6_method_5_code 32 = .ok (.aload_n 0, 1) := by decide +kernel
theorem d_Law_readTape_33 : decode prog_6_method_5_code 33 = .ok (.getfield 15, 3) := by decide +kernel
theorem d_Law_readTape_36 : decode prog_6_method_5_code 36 = .ok (.iconst 0, 1) := by decide +kernel
theorem d_Law_readTape_37 : decode prog_6_method_5_code 37 = .ok (.aload_n 0, 1) := by decide +kernel
theorem d_Law_readTape_38 : decode prog_6_method_5_code 38 = .ok (.getfield 18, 3) := by decide +kernel
theorem d_Law_readTape_41 : decode prog_6_method_5_code 41 = .ok (.iconst 0, 1) := by decide +kernel
theorem d_Law_readTape_42 : decode prog_6_method_5_code 42 = .ok (.sipush 130, 3) := by decide +kernel
theorem d_Law_readTape_45 : decode prog_6_method_5_code 45 = .ok (.invokestatic 44, 3) := by decide +kernel
theorem d_Law_readTape_48 : decode prog_6_method_5_code 48 = .ok (.aload_n 0, 1) := by decide +kernel
theorem d_Law_readTape_49 : decode prog_6_method_5_code 49 = .ok (.aload_n 0, 1) := by decide +kernel
theorem d_Law_readTape_50 : decode prog_6_method_5_code 50 = .ok (.getfield 34, 3) := by decide +kernel
theorem d_Law_readTape_53 : decode prog_6_method_5_code 53 = .ok (.putfield 37, 3) := by decide +kernel
theorem d_Law_readTape_56 : decode prog_6_method_5_code 56 = .ok (.iconst 1, 1) := by decide +kernel
theorem d_Law_readTape_57 : decode prog_6_method_5_code 57 = .ok (.ireturn, 1) := by decide +kernel
theorem b_Law_readTape_0 {d : Nat} {h : am_H} {Q : am_Q} (k : m_Law_readLines d [.ref 6] (am_pI (am_pI h 6 6 0) 6 7 0) (fun r hh => am_W (X_Law_readTape (d + 1)) 14 [some (.ref 6), none] (r.toList ++ []) hh Q)) : am_W (X_Law_readTape (d + 1)) 0 [some (.ref 6), none] [] h Q :=
  am_aload_n d_Law_readTape_0 rfl (i := 0) rfl <|
    am_iconst (v := 0) d_Law_readTape_1 (by decide) <|
    am_putI (ci := 2) (i := 6) rfl rfl rfl (Nat.le_of_ble_eq_true rfl) w_166 rfl rfl rfl d_Law_readTape_2 <|
    am_aload_n d_Law_readTape_5 rfl (i := 0) rfl <|
    am_iconst (v := 0) d_Law_readTape_6 (by decide) <|
    am_putI (ci := 2) (i := 7) rfl rfl rfl (Nat.le_of_ble_eq_true rfl) w_167 rfl rfl rfl d_Law_readTape_7 <|
    am_aload_n d_Law_readTape_10 rfl (i := 0) rfl <|
    am_callV (vs := []) (st := []) (k := 6) (ci := 2) rfl d_Law_readTape_11 rfl rfl w_533 w_535 w_4 w_86 w_536 p_Law_readLines (Nat.le_of_ble_eq_true rfl) (Nat.le_of_ble_eq_true rfl) rfl k
theorem b_Law_readTape_14 {d : Nat} {y0 : Bool} {h : am_H} {Q : am_Q} (kt : ¬ (am_b y0) = 0 → am_W (X_Law_readTape d) 32 [some (.ref 6), some (.int (am_b y0))] [] (am_pI h 6 5 0) Q) (kf : (am_b y0) = 0 → am_W (X_Law_readTape d) 24 [some (.ref 6), some (.int (am_b y0))] [] (am_pI h 6 5 0) Q) : am_W (X_Law_readTape d) 14 [some (.ref 6), none] [.int (am_b y0)] h Q :=
  am_istore_n (ls' := [some (.ref 6), some (.int (am_b y0))]) d_Law_readTape_14 rfl (Nat.le_of_ble_eq_true rfl) rfl <|
    am_aload_n d_Law_readTape_15 rfl (i := 0) rfl <|
    am_iconst (v := 0) d_Law_readTape_16 (by decide) <|
    am_putI (ci := 2) (i := 5) rfl rfl rfl (Nat.le_of_ble_eq_true rfl) w_165 rfl rfl rfl d_Law_readTape_17 <|
    am_iload_n d_Law_readTape_20 rfl (i := 1) rfl <|
    am_if_ne (tgt := 32) d_Law_readTape_21 (by decide) kt kf
theorem b_Law_readTape_24 {d : Nat} {x1 : Bool} {h : am_H} {Q : am_Q} (q : Q (some (.int ((-100) - (h.1 6 6)))) h) : am_W (X_Law_readTape d) 24 [some (.ref 6), some (.int (am_b x1))] [] h Q :=
  am_bipush (v := (-100)) d_Law_readTape_24 (by decide) <|
    am_aload_n d_Law_readTape_26 rfl (i := 0) rfl <|
    am_getI (ci := 2) (i := 6) rfl rfl rfl (Nat.le_of_ble_eq_true rfl) w_166 d_Law_readTape_27 <|
    am_isub d_Law_readTape_30 <|
    am_iret rfl d_Law_readTape_31 q
theorem b_Law_readTape_32 {d : Nat} {x1 : Bool} {h : am_H} {Q : am_Q} (k : am_W (X_Law_readTape d) 48 [some (.ref 6), some (.int (am_b x1))] [] (am_cI h 8 9 (0 : Int32).toNatClampNeg (0 : Int32).toNatClampNeg (130 : Int32).toNatClampNeg) Q) : am_W (X_Law_readTape d) 32 [some (.ref 6), some (.int (am_b x1))] [] h Q :=
  am_aload_n d_Law_readTape_32 rfl (i := 0) rfl <|
    am_getR (ci := 2) (i := 1) rfl rfl rfl (Nat.le_of_ble_eq_true rfl) w_161 d_Law_readTape_33 <|
    am_iconst (v := 0) d_Law_readTape_36 (by decide) <|
    am_aload_n d_Law_readTape_37 rfl (i := 0) rfl <|
    am_getR (ci := 2) (i := 2) rfl rfl rfl (Nat.le_of_ble_eq_true rfl) w_162 d_Law_readTape_38 <|
    am_iconst (v := 0) d_Law_readTape_41 (by decide) <|
    am_sipush (v := 130) d_Law_readTape_42 (by decide) <|
    am_copyI d_Law_readTape_45 w_660 w_495 w_494 w_96 rfl rfl (by decide) (by decide) (by decide) (by decide) (by decide) (Nat.le_of_ble_eq_true rfl) k
theorem b_Law_readTape_48 {d : Nat} {x1 : Bool} {h : am_H} {Q : am_Q} (q : Q (some (.int 1)) (am_pI h 6 8 (h.1 6 7))) : am_W (X_Law_readTape d) 48 [some (.ref 6), some (.int (am_b x1))] [] h Q :=
  am_aload_n d_Law_readTape_48 rfl (i := 0) rfl <|
    am_aload_n d_Law_readTape_49 rfl (i := 0) rfl <|
    am_getI (ci := 2) (i := 7) rfl rfl rfl (Nat.le_of_ble_eq_true rfl) w_167 d_Law_readTape_50 <|
    am_putI (ci := 2) (i := 8) rfl rfl rfl (Nat.le_of_ble_eq_true rfl) w_168 rfl rfl rfl d_Law_readTape_53 <|
    am_iconst (v := 1) d_Law_readTape_56 (by decide) <|
    am_iret rfl d_Law_readTape_57 q
theorem t_Law_readTape_48 {d : Nat} {x1 : Bool} {h : am_H} {Q : am_Q} {res : Int32 × am_H} (e : f_Law_readTape_48 h = some res) (q : Q (some (.int res.1)) res.2) : am_W (X_Law_readTape (d + 70)) 48 [some (.ref 6), some (.int (am_b x1))] [] h Q :=
  b_Law_readTape_48 (d := (d + 70)) (q := (am_rIpi (v := 1) e q))
theorem t_Law_readTape_32 {d : Nat} {x1 : Bool} {h : am_H} {Q : am_Q} {res : Int32 × am_H} (e : f_Law_readTape_32 h = some res) (q : Q (some (.int res.1)) res.2) : am_W (X_Law_readTape (d + 70)) 32 [some (.ref 6), some (.int (am_b x1))] [] h Q :=
  b_Law_readTape_32 (d := (d + 70)) (k := (t_Law_readTape_48 e q))
theorem t_Law_readTape_24 {d : Nat} {x1 : Bool} {h : am_H} {Q : am_Q} {res : Int32 × am_H} (e : f_Law_readTape_24 h = some res) (q : Q (some (.int res.1)) res.2) : am_W (X_Law_readTape (d + 70)) 24 [some (.ref 6), some (.int (am_b x1))] [] h Q :=
  b_Law_readTape_24 (d := (d + 70)) (q := (am_rIpi (v := ((-100) - (h.1 6 6))) e q))
theorem t_Law_readTape_14 {d : Nat} {y0 : Bool} {h : am_H} {Q : am_Q} {res : Int32 × am_H} (e : f_Law_readTape_14 h y0 = some res) (q : Q (some (.int res.1)) res.2) : am_W (X_Law_readTape (d + 70)) 14 [some (.ref 6), none] [.int (am_b y0)] h Q :=
  b_Law_readTape_14 (d := (d + 70)) (kt := fun c => (t_Law_readTape_32 (am_ift e (am_bn c)) q)) (kf := fun c => (t_Law_readTape_24 (am_iff e (am_bz c)) q))
theorem t_Law_readTape_0 {d : Nat} {h : am_H} {Q : am_Q} {res : Int32 × am_H} (e : f_Law_readTape h = some res) (q : Q (some (.int res.1)) res.2) : am_W (X_Law_readTape (d + 70)) 0 [some (.ref 6), none] [] h Q :=
  (am_bd e).elim fun p hp => b_Law_readTape_0 (d := (d + 69)) (k := c_Law_readLines (d := d) hp.1 (t_Law_readTape_14 hp.2 q))
theorem c_Law_readTape {d : Nat} {h : am_H} {Q : am_Q} {res : Int32 × am_H} (e : f_Law_readTape h = some res) (q : Q (some (.int res.1)) res.2) : m_Law_readTape (d + 70) [.ref 6] h Q :=
  e_Law_readTape (t_Law_readTape_0 e q)
theorem d_Club_law_0 : decode prog_1_method_7_code 0 = .ok (.aload_n 0, 1) := by decide +kernel
theorem d_Club_law_1 : decode prog_1_method_7_code 1 = .ok (.getfield 30, 3) := by decide +kernel
theorem d_Club_law_4 : decode prog_1_method_7_code 4 = .ok (.invokevirtual 88, 3) := by decide +kernel
theorem d_Club_law_7 : decode prog_1_method_7_code 7 = .ok (.aload_n 0, 1) := by decide +kernel
theorem d_Club_law_8 : decode prog_1_method_7_code 8 = .ok (.getfield 21, 3) := by decide +kernel
theorem d_Club_law_11 : decode prog_1_method_7_code 11 = .ok (.invokevirtual 140, 3) := by decide +kernel
theorem d_Club_law_14 : decode prog_1_method_7_code 14 = .ok (.ireturn, 1) := by decide +kernel
theorem b_Club_law_0 {d : Nat} {h : am_H} {Q : am_Q} (k : m_Reck_forget d [.ref 12] h (fun r hh => am_W (X_Club_law (d + 1)) 7 [some (.ref 0)] (r.toList ++ []) hh Q)) : am_W (X_Club_law (d + 1)) 0 [some (.ref 0)] [] h Q :=
  am_aload_n d_Club_law_0 rfl (i := 0) rfl <|
    am_getR (ci := 0) (i := 2) rfl rfl rfl (Nat.le_of_ble_eq_true rfl) w_364 d_Club_law_1 <|
    am_callV (vs := []) (st := []) (k := 12) (ci := 3) rfl d_Club_law_4 rfl rfl w_408 w_409 w_410 w_87 w_411 p_Reck_forget (Nat.le_of_ble_eq_true rfl) (Nat.le_of_ble_eq_true rfl) rfl k
theorem b_Club_law_7 {d : Nat} {h : am_H} {Q : am_Q} (k : m_Law_readTape d [.ref 6] h (fun r hh => am_W (X_Club_law (d + 1)) 14 [some (.ref 0)] (r.toList ++ []) hh Q)) : am_W (X_Club_law (d + 1)) 7 [some (.ref 0)] [] h Q :=
  am_aload_n d_Club_law_7 rfl (i := 0) rfl <|
    am_getR (ci := 0) (i := 1) rfl rfl rfl (Nat.le_of_ble_eq_true rfl) w_363 d_Club_law_8 <|
    am_callV (vs := []) (st := []) (k := 6) (ci := 2) rfl d_Club_law_11 rfl rfl w_529 w_530 w_531 w_86 w_532 p_Law_readTape (Nat.le_of_ble_eq_true rfl) (Nat.le_of_ble_eq_true rfl) rfl k
theorem b_Club_law_14 {d : Nat} {y0 : Int32} {h : am_H} {Q : am_Q} (q : Q (some (.int y0)) h) : am_W (X_Club_law d) 14 [some (.ref 0)] [.int y0] h Q :=
  am_iret rfl d_Club_law_14 q
theorem t_Club_law_14 {d : Nat} {y0 : Int32} {h : am_H} {Q : am_Q} {res : Int32 × am_H} (e : f_Club_law_14 h y0 = some res) (q : Q (some (.int res.1)) res.2) : am_W (X_Club_law (d + 71)) 14 [some (.ref 0)] [.int y0] h Q :=
  b_Club_law_14 (d := (d + 71)) (q := (am_rIpi (v := y0) e q))
theorem t_Club_law_7 {d : Nat} {h : am_H} {Q : am_Q} {res : Int32 × am_H} (e : f_Club_law_7 h = some res) (q : Q (some (.int res.1)) res.2) : am_W (X_Club_law (d + 71)) 7 [some (.ref 0)] [] h Q :=
  (am_bd e).elim fun p hp => b_Club_law_7 (d := (d + 70)) (k := c_Law_readTape (d := d) hp.1 (t_Club_law_14 hp.2 q))
theorem t_Club_law_0 {d : Nat} {h : am_H} {Q : am_Q} {res : Int32 × am_H} (e : f_Club_law h = some res) (q : Q (some (.int res.1)) res.2) : am_W (X_Club_law (d + 71)) 0 [some (.ref 0)] [] h Q :=
  (am_bd e).elim fun p hp => b_Club_law_0 (d := (d + 70)) (k := c_Reck_forget (d := d + 68) hp.1 (t_Club_law_7 hp.2 q))
theorem c_Club_law {d : Nat} {h : am_H} {Q : am_Q} {res : Int32 × am_H} (e : f_Club_law h = some res) (q : Q (some (.int res.1)) res.2) : m_Club_law (d + 71) [.ref 0] h Q :=
  e_Club_law (t_Club_law_0 e q)
theorem d_Club_isFractionPart_0 : decode prog_1_method_44_code 0 = .ok (.iload_n 0, 1) := by decide +kernel
theorem d_Club_isFractionPart_1 : decode prog_1_method_44_code 1 = .ok (.ifCond .eq 8, 3) := by decide +kernel
theorem d_Club_isFractionPart_4 : decode prog_1_method_44_code 4 = .ok (.iload_n 0, 1) := by decide +kernel
theorem d_Club_isFractionPart_5 : decode prog_1_method_44_code 5 = .ok (.iconst 1, 1) := by decide +kernel
theorem d_Club_isFractionPart_6 : decode prog_1_method_44_code 6 = .ok (.if_icmp .ne 7, 3) := by decide +kernel
theorem d_Club_isFractionPart_9 : decode prog_1_method_44_code 9 = .ok (.iconst 1, 1) := by decide +kernel
theorem d_Club_isFractionPart_10 : decode prog_1_method_44_code 10 = .ok (.goto 4, 3) := by decide +kernel
theorem d_Club_isFractionPart_13 : decode prog_1_method_44_code 13 = .ok (.iconst 0, 1) := by decide +kernel
theorem d_Club_isFractionPart_14 : decode prog_1_method_44_code 14 = .ok (.ireturn, 1) := by decide +kernel
theorem b_Club_isFractionPart_0 {d : Nat} {x0 : Int32} {h : am_H} {Q : am_Q} (kt : x0 = 0 → am_W (X_Club_isFractionPart d) 9 [some (.int x0)] [] h Q) (kf : ¬ x0 = 0 → am_W (X_Club_isFractionPart d) 4 [some (.int x0)] [] h Q) : am_W (X_Club_isFractionPart d) 0 [some (.int x0)] [] h Q :=
  am_iload_n d_Club_isFractionPart_0 rfl (i := 0) rfl <|
    am_if_eq (tgt := 9) d_Club_isFractionPart_1 (by decide) kt kf
theorem b_Club_isFractionPart_4 {d : Nat} {x0 : Int32} {h : am_H} {Q : am_Q} (kt : ¬ x0 = 1 → am_W (X_Club_isFractionPart d) 13 [some (.int x0)] [] h Q) (kf : x0 = 1 → am_W (X_Club_isFractionPart d) 9 [some (.int x0)] [] h Q) : am_W (X_Club_isFractionPart d) 4 [some (.int x0)] [] h Q :=
  am_iload_n d_Club_isFractionPart_4 rfl (i := 0) rfl <|
    am_iconst (v := 1) d_Club_isFractionPart_5 (by decide) <|
    am_icmp_ne (tgt := 13) d_Club_isFractionPart_6 (by decide) kt kf
theorem b_Club_isFractionPart_9 {d : Nat} {x0 : Int32} {h : am_H} {Q : am_Q} (q : Q (some (.int 1)) h) : am_W (X_Club_isFractionPart d) 9 [some (.int x0)] [] h Q :=
  am_iconst (v := 1) d_Club_isFractionPart_9 (by decide) <|
    am_goto (tgt := 14) d_Club_isFractionPart_10 (by decide) <|
    am_zret (ty := .boolean) rfl (by decide) d_Club_isFractionPart_14 q
theorem b_Club_isFractionPart_13 {d : Nat} {x0 : Int32} {h : am_H} {Q : am_Q} (q : Q (some (.int 0)) h) : am_W (X_Club_isFractionPart d) 13 [some (.int x0)] [] h Q :=
  am_iconst (v := 0) d_Club_isFractionPart_13 (by decide) <|
    am_zret (ty := .boolean) rfl (by decide) d_Club_isFractionPart_14 q
theorem t_Club_isFractionPart_9 {d : Nat} {x0 : Int32} {h : am_H} {Q : am_Q} {res : Bool} (e : f_Club_isFractionPart_9 = res) (q : Q (some (.int (am_b res))) h) : am_W (X_Club_isFractionPart d) 9 [some (.int x0)] [] h Q :=
  b_Club_isFractionPart_9 (d := d) (q := (am_rZt (v := true) e q))
theorem t_Club_isFractionPart_13 {d : Nat} {x0 : Int32} {h : am_H} {Q : am_Q} {res : Bool} (e : f_Club_isFractionPart_13 = res) (q : Q (some (.int (am_b res))) h) : am_W (X_Club_isFractionPart d) 13 [some (.int x0)] [] h Q :=
  b_Club_isFractionPart_13 (d := d) (q := (am_rZt (v := false) e q))
theorem t_Club_isFractionPart_4 {d : Nat} {x0 : Int32} {h : am_H} {Q : am_Q} {res : Bool} (e : f_Club_isFractionPart_4 x0 = res) (q : Q (some (.int (am_b res))) h) : am_W (X_Club_isFractionPart d) 4 [some (.int x0)] [] h Q :=
  b_Club_isFractionPart_4 (d := d) (kt := fun c => (t_Club_isFractionPart_13 (am_ife e c) q)) (kf := fun c => (t_Club_isFractionPart_9 (am_ift e c) q))
theorem t_Club_isFractionPart_0 {d : Nat} {x0 : Int32} {h : am_H} {Q : am_Q} {res : Bool} (e : f_Club_isFractionPart x0 = res) (q : Q (some (.int (am_b res))) h) : am_W (X_Club_isFractionPart d) 0 [some (.int x0)] [] h Q :=
  b_Club_isFractionPart_0 (d := d) (kt := fun c => (t_Club_isFractionPart_9 (am_ift e c) q)) (kf := fun c => (t_Club_isFractionPart_4 (am_ife e c) q))
theorem c_Club_isFractionPart {d : Nat} {x0 : Int32} {h : am_H} {Q : am_Q} {res : Bool} (e : f_Club_isFractionPart x0 = res) (q : Q (some (.int (am_b res))) h) : m_Club_isFractionPart d [.int x0] h Q :=
  e_Club_isFractionPart (t_Club_isFractionPart_0 e q)
theorem d_Hole_isGreen_0 : decode prog_5_method_19_code 0 = .ok (.iload_n 1, 1) := by decide +kernel
theorem d_Hole_isGreen_1 : decode prog_5_method_19_code 1 = .ok (.invokestatic 59, 3) := by decide +kernel
theorem d_Hole_isGreen_4 : decode prog_5_method_19_code 4 = .ok (.ifCond .eq 25, 3) := by decide +kernel
theorem d_Hole_isGreen_7 : decode prog_5_method_19_code 7 = .ok (.iload_n 1, 1) := by decide +kernel
theorem d_Hole_isGreen_8 : decode prog_5_method_19_code 8 = .ok (.aload_n 0, 1) := by decide +kernel
theorem d_Hole_isGreen_9 : decode prog_5_method_19_code 9 = .ok (.getfield 28, 3) := by decide +kernel
theorem d_Hole_isGreen_12 : decode prog_5_method_19_code 12 = .ok (.if_icmp .eq 13, 3) := by decide +kernel
theorem d_Hole_isGreen_15 : decode prog_5_method_19_code 15 = .ok (.aload_n 0, 1) := by decide +kernel
theorem d_Hole_isGreen_16 : decode prog_5_method_19_code 16 = .ok (.getfield 11, 3) := by decide +kernel
theorem d_Hole_isGreen_19 : decode prog_5_method_19_code 19 = .ok (.iload_n 1, 1) := by decide +kernel
theorem d_Hole_isGreen_20 : decode prog_5_method_19_code 20 = .ok (.iaload, 1) := by decide +kernel
theorem d_Hole_isGreen_21 : decode prog_5_method_19_code 21 = .ok (.iconst 4, 1) := by decide +kernel
theorem d_Hole_isGreen_22 : decode prog_5_method_19_code 22 = .ok (.if_icmp .ne 7, 3) := by decide +kernel
theorem d_Hole_isGreen_25 : decode prog_5_method_19_code 25 = .ok (.iconst 1, 1) := by decide +kernel
theorem d_Hole_isGreen_26 : decode prog_5_method_19_code 26 = .ok (.goto 4, 3) := by decide +kernel
theorem d_Hole_isGreen_29 : decode prog_5_method_19_code 29 = .ok (.iconst 0, 1) := by decide +kernel
theorem d_Hole_isGreen_30 : decode prog_5_method_19_code 30 = .ok (.ireturn, 1) := by decide +kernel
theorem b_Hole_isGreen_0 {d : Nat} {x1 : Int32} {h : am_H} {Q : am_Q} (k : m_Hole_isCell d [.int x1] h (fun r hh => am_W (X_Hole_isGreen (d + 1)) 4 [some (.ref 1), some (.int x1)] (r.toList ++ []) hh Q)) : am_W (X_Hole_isGreen (d + 1)) 0 [some (.ref 1), some (.int x1)] [] h Q :=
  am_iload_n d_Hole_isGreen_0 rfl (i := 1) rfl <|
    am_callS (vs := [.int x1]) (st := []) rfl d_Hole_isGreen_1 w_468 w_469 w_84 w_470 p_Hole_isCell (Nat.le_of_ble_eq_true rfl) (Nat.le_of_ble_eq_true rfl) rfl k
theorem b_Hole_isGreen_4 {d : Nat} {x1 : Int32} {y0 : Bool} {h : am_H} {Q : am_Q} (kt : (am_b y0) = 0 → am_W (X_Hole_isGreen d) 29 [some (.ref 1), some (.int x1)] [] h Q) (kf : ¬ (am_b y0) = 0 → am_W (X_Hole_isGreen d) 7 [some (.ref 1), some (.int x1)] [] h Q) : am_W (X_Hole_isGreen d) 4 [some (.ref 1), some (.int x1)] [.int (am_b y0)] h Q :=
  am_if_eq (tgt := 29) d_Hole_isGreen_4 (by decide) kt kf
theorem b_Hole_isGreen_7 {d : Nat} {x1 : Int32} {h : am_H} {Q : am_Q} (kt : x1 = (h.1 1 5) → am_W (X_Hole_isGreen d) 25 [some (.ref 1), some (.int x1)] [] h Q) (kf : ¬ x1 = (h.1 1 5) → am_W (X_Hole_isGreen d) 15 [some (.ref 1), some (.int x1)] [] h Q) : am_W (X_Hole_isGreen d) 7 [some (.ref 1), some (.int x1)] [] h Q :=
  am_iload_n d_Hole_isGreen_7 rfl (i := 1) rfl <|
    am_aload_n d_Hole_isGreen_8 rfl (i := 0) rfl <|
    am_getI (ci := 1) (i := 5) rfl rfl rfl (Nat.le_of_ble_eq_true rfl) w_127 d_Hole_isGreen_9 <|
    am_icmp_eq (tgt := 25) d_Hole_isGreen_12 (by decide) kt kf
theorem b_Hole_isGreen_15 {d : Nat} {x1 : Int32} {h : am_H} {Q : am_Q} (q0 : vp_in x1 31) (kt : ¬ (h.1 2 x1.toNatClampNeg) = 4 → am_W (X_Hole_isGreen d) 29 [some (.ref 1), some (.int x1)] [] h Q) (kf : (h.1 2 x1.toNatClampNeg) = 4 → am_W (X_Hole_isGreen d) 25 [some (.ref 1), some (.int x1)] [] h Q) : am_W (X_Hole_isGreen d) 15 [some (.ref 1), some (.int x1)] [] h Q :=
  am_aload_n d_Hole_isGreen_15 rfl (i := 0) rfl <|
    am_getR (ci := 1) (i := 0) rfl rfl rfl (Nat.le_of_ble_eq_true rfl) w_122 d_Hole_isGreen_16 <|
    am_iload_n d_Hole_isGreen_19 rfl (i := 1) rfl <|
    am_iald rfl q0 d_Hole_isGreen_20 <|
    am_iconst (v := 4) d_Hole_isGreen_21 (by decide) <|
    am_icmp_ne (tgt := 29) d_Hole_isGreen_22 (by decide) kt kf
theorem b_Hole_isGreen_25 {d : Nat} {x1 : Int32} {h : am_H} {Q : am_Q} (q : Q (some (.int 1)) h) : am_W (X_Hole_isGreen d) 25 [some (.ref 1), some (.int x1)] [] h Q :=
  am_iconst (v := 1) d_Hole_isGreen_25 (by decide) <|
    am_goto (tgt := 30) d_Hole_isGreen_26 (by decide) <|
    am_zret (ty := .boolean) rfl (by decide) d_Hole_isGreen_30 q
theorem b_Hole_isGreen_29 {d : Nat} {x1 : Int32} {h : am_H} {Q : am_Q} (q : Q (some (.int 0)) h) : am_W (X_Hole_isGreen d) 29 [some (.ref 1), some (.int x1)] [] h Q :=
  am_iconst (v := 0) d_Hole_isGreen_29 (by decide) <|
    am_zret (ty := .boolean) rfl (by decide) d_Hole_isGreen_30 q
theorem t_Hole_isGreen_29 {d : Nat} {x1 : Int32} {h : am_H} {Q : am_Q} {res : Bool} (e : f_Hole_isGreen_29 h = some res) (q : Q (some (.int (am_b res))) h) : am_W (X_Hole_isGreen (d + 1)) 29 [some (.ref 1), some (.int x1)] [] h Q :=
  b_Hole_isGreen_29 (d := (d + 1)) (q := (am_rZp (v := false) e q))
theorem t_Hole_isGreen_25 {d : Nat} {x1 : Int32} {h : am_H} {Q : am_Q} {res : Bool} (e : f_Hole_isGreen_25 h = some res) (q : Q (some (.int (am_b res))) h) : am_W (X_Hole_isGreen (d + 1)) 25 [some (.ref 1), some (.int x1)] [] h Q :=
  b_Hole_isGreen_25 (d := (d + 1)) (q := (am_rZp (v := true) e q))
theorem t_Hole_isGreen_15 {d : Nat} {x1 : Int32} {h : am_H} {Q : am_Q} {res : Bool} (e : f_Hole_isGreen_15 h x1 = some res) (q : Q (some (.int (am_b res))) h) : am_W (X_Hole_isGreen (d + 1)) 15 [some (.ref 1), some (.int x1)] [] h Q :=
  b_Hole_isGreen_15 (d := (d + 1)) (q0 := (am_okv (am_gd e))) (kt := fun c => (t_Hole_isGreen_29 (am_ife (am_ga e) c) q)) (kf := fun c => (t_Hole_isGreen_25 (am_ift (am_ga e) c) q))
theorem t_Hole_isGreen_7 {d : Nat} {x1 : Int32} {h : am_H} {Q : am_Q} {res : Bool} (e : f_Hole_isGreen_7 h x1 = some res) (q : Q (some (.int (am_b res))) h) : am_W (X_Hole_isGreen (d + 1)) 7 [some (.ref 1), some (.int x1)] [] h Q :=
  b_Hole_isGreen_7 (d := (d + 1)) (kt := fun c => (t_Hole_isGreen_25 (am_ift e c) q)) (kf := fun c => (t_Hole_isGreen_15 (am_ife e c) q))
theorem t_Hole_isGreen_4 {d : Nat} {x1 : Int32} {y0 : Bool} {h : am_H} {Q : am_Q} {res : Bool} (e : f_Hole_isGreen_4 h x1 y0 = some res) (q : Q (some (.int (am_b res))) h) : am_W (X_Hole_isGreen (d + 1)) 4 [some (.ref 1), some (.int x1)] [.int (am_b y0)] h Q :=
  b_Hole_isGreen_4 (d := (d + 1)) (kt := fun c => (t_Hole_isGreen_29 (am_iff e (am_bz c)) q)) (kf := fun c => (t_Hole_isGreen_7 (am_ift e (am_bn c)) q))
theorem t_Hole_isGreen_0 {d : Nat} {x1 : Int32} {h : am_H} {Q : am_Q} {res : Bool} (e : f_Hole_isGreen h x1 = some res) (q : Q (some (.int (am_b res))) h) : am_W (X_Hole_isGreen (d + 1)) 0 [some (.ref 1), some (.int x1)] [] h Q :=
  b_Hole_isGreen_0 (d := d) (k := c_Hole_isCell (d := d) rfl (t_Hole_isGreen_4 e q))
theorem c_Hole_isGreen {d : Nat} {x1 : Int32} {h : am_H} {Q : am_Q} {res : Bool} (e : f_Hole_isGreen h x1 = some res) (q : Q (some (.int (am_b res))) h) : m_Hole_isGreen (d + 1) [.ref 1, .int x1] h Q :=
  e_Hole_isGreen (t_Hole_isGreen_0 e q)
theorem d_Hole_isOffGreen_0 : decode prog_5_method_20_code 0 = .ok (.iload_n 1, 1) := by decide +kernel
theorem d_Hole_isOffGreen_1 : decode prog_5_method_20_code 1 = .ok (.invokestatic 59, 3) := by decide +kernel
theorem d_Hole_isOffGreen_4 : decode prog_5_method_20_code 4 = .ok (.ifCond .eq 15, 3) := by decide +kernel
theorem d_Hole_isOffGreen_7 : decode prog_5_method_20_code 7 = .ok (.aload_n 0, 1) := by decide +kernel
theorem d_Hole_isOffGreen_8 : decode prog_5_method_20_code 8 = .ok (.iload_n 1, 1) := by decide +kernel
theorem d_Hole_isOffGreen_9 : decode prog_5_method_20_code 9 = .ok (.invokevirtual 101, 3) := by decide +kernel
theorem d_Hole_isOffGreen_12 : decode prog_5_method_20_code 12 = .ok (.ifCond .ne 7, 3) := by decide +kernel
theorem d_Hole_isOffGreen_15 : decode prog_5_method_20_code 15 = .ok (.iconst 1, 1) := by decide +kernel
theorem d_Hole_isOffGreen_16 : decode prog_5_method_20_code 16 = .ok (.goto 4, 3) := by decide +kernel
theorem d_Hole_isOffGreen_19 : decode prog_5_method_20_code 19 = .ok (.iconst 0, 1) := by decide +kernel
theorem d_Hole_isOffGreen_20 : decode prog_5_method_20_code 20 = .ok (.ireturn, 1) := by decide +kernel
theorem b_Hole_isOffGreen_0 {d : Nat} {x1 : Int32} {h : am_H} {Q : am_Q} (k : m_Hole_isCell d [.int x1] h (fun r hh => am_W (X_Hole_isOffGreen (d + 1)) 4 [some (.ref 1), some (.int x1)] (r.toList ++ []) hh Q)) : am_W (X_Hole_isOffGreen (d + 1)) 0 [some (.ref 1), some (.int x1)] [] h Q :=
  am_iload_n d_Hole_isOffGreen_0 rfl (i := 1) rfl <|
    am_callS (vs := [.int x1]) (st := []) rfl d_Hole_isOffGreen_1 w_468 w_469 w_84 w_470 p_Hole_isCell (Nat.le_of_ble_eq_true rfl) (Nat.le_of_ble_eq_true rfl) rfl k
theorem b_Hole_isOffGreen_4 {d : Nat} {x1 : Int32} {y0 : Bool} {h : am_H} {Q : am_Q} (kt : (am_b y0) = 0 → am_W (X_Hole_isOffGreen d) 19 [some (.ref 1), some (.int x1)] [] h Q) (kf : ¬ (am_b y0) = 0 → am_W (X_Hole_isOffGreen d) 7 [some (.ref 1), some (.int x1)] [] h Q) : am_W (X_Hole_isOffGreen d) 4 [some (.ref 1), some (.int x1)] [.int (am_b y0)] h Q :=
  am_if_eq (tgt := 19) d_Hole_isOffGreen_4 (by decide) kt kf
theorem b_Hole_isOffGreen_7 {d : Nat} {x1 : Int32} {h : am_H} {Q : am_Q} (k : m_Hole_isGreen d [.ref 1, .int x1] h (fun r hh => am_W (X_Hole_isOffGreen (d + 1)) 12 [some (.ref 1), some (.int x1)] (r.toList ++ []) hh Q)) : am_W (X_Hole_isOffGreen (d + 1)) 7 [some (.ref 1), some (.int x1)] [] h Q :=
  am_aload_n d_Hole_isOffGreen_7 rfl (i := 0) rfl <|
    am_iload_n d_Hole_isOffGreen_8 rfl (i := 1) rfl <|
    am_callV (vs := [.int x1]) (st := []) (k := 1) (ci := 1) rfl d_Hole_isOffGreen_9 rfl rfl w_674 w_675 w_676 w_84 w_677 p_Hole_isGreen (Nat.le_of_ble_eq_true rfl) (Nat.le_of_ble_eq_true rfl) rfl k
theorem b_Hole_isOffGreen_12 {d : Nat} {x1 : Int32} {y0 : Bool} {h : am_H} {Q : am_Q} (kt : ¬ (am_b y0) = 0 → am_W (X_Hole_isOffGreen d) 19 [some (.ref 1), some (.int x1)] [] h Q) (kf : (am_b y0) = 0 → am_W (X_Hole_isOffGreen d) 15 [some (.ref 1), some (.int x1)] [] h Q) : am_W (X_Hole_isOffGreen d) 12 [some (.ref 1), some (.int x1)] [.int (am_b y0)] h Q :=
  am_if_ne (tgt := 19) d_Hole_isOffGreen_12 (by decide) kt kf
theorem b_Hole_isOffGreen_15 {d : Nat} {x1 : Int32} {h : am_H} {Q : am_Q} (q : Q (some (.int 1)) h) : am_W (X_Hole_isOffGreen d) 15 [some (.ref 1), some (.int x1)] [] h Q :=
  am_iconst (v := 1) d_Hole_isOffGreen_15 (by decide) <|
    am_goto (tgt := 20) d_Hole_isOffGreen_16 (by decide) <|
    am_zret (ty := .boolean) rfl (by decide) d_Hole_isOffGreen_20 q
theorem b_Hole_isOffGreen_19 {d : Nat} {x1 : Int32} {h : am_H} {Q : am_Q} (q : Q (some (.int 0)) h) : am_W (X_Hole_isOffGreen d) 19 [some (.ref 1), some (.int x1)] [] h Q :=
  am_iconst (v := 0) d_Hole_isOffGreen_19 (by decide) <|
    am_zret (ty := .boolean) rfl (by decide) d_Hole_isOffGreen_20 q
theorem t_Hole_isOffGreen_19 {d : Nat} {x1 : Int32} {h : am_H} {Q : am_Q} {res : Bool} (e : f_Hole_isOffGreen_19 h = some res) (q : Q (some (.int (am_b res))) h) : am_W (X_Hole_isOffGreen (d + 2)) 19 [some (.ref 1), some (.int x1)] [] h Q :=
  b_Hole_isOffGreen_19 (d := (d + 2)) (q := (am_rZp (v := false) e q))
theorem t_Hole_isOffGreen_15 {d : Nat} {x1 : Int32} {h : am_H} {Q : am_Q} {res : Bool} (e : f_Hole_isOffGreen_15 h = some res) (q : Q (some (.int (am_b res))) h) : am_W (X_Hole_isOffGreen (d + 2)) 15 [some (.ref 1), some (.int x1)] [] h Q :=
  b_Hole_isOffGreen_15 (d := (d + 2)) (q := (am_rZp (v := true) e q))
theorem t_Hole_isOffGreen_12 {d : Nat} {x1 : Int32} {y0 : Bool} {h : am_H} {Q : am_Q} {res : Bool} (e : f_Hole_isOffGreen_12 h y0 = some res) (q : Q (some (.int (am_b res))) h) : am_W (X_Hole_isOffGreen (d + 2)) 12 [some (.ref 1), some (.int x1)] [.int (am_b y0)] h Q :=
  b_Hole_isOffGreen_12 (d := (d + 2)) (kt := fun c => (t_Hole_isOffGreen_19 (am_ift e (am_bn c)) q)) (kf := fun c => (t_Hole_isOffGreen_15 (am_iff e (am_bz c)) q))
theorem t_Hole_isOffGreen_7 {d : Nat} {x1 : Int32} {h : am_H} {Q : am_Q} {res : Bool} (e : f_Hole_isOffGreen_7 h x1 = some res) (q : Q (some (.int (am_b res))) h) : am_W (X_Hole_isOffGreen (d + 2)) 7 [some (.ref 1), some (.int x1)] [] h Q :=
  (am_bd e).elim fun p hp => b_Hole_isOffGreen_7 (d := (d + 1)) (k := c_Hole_isGreen (d := d) hp.1 (t_Hole_isOffGreen_12 hp.2 q))
theorem t_Hole_isOffGreen_4 {d : Nat} {x1 : Int32} {y0 : Bool} {h : am_H} {Q : am_Q} {res : Bool} (e : f_Hole_isOffGreen_4 h x1 y0 = some res) (q : Q (some (.int (am_b res))) h) : am_W (X_Hole_isOffGreen (d + 2)) 4 [some (.ref 1), some (.int x1)] [.int (am_b y0)] h Q :=
  b_Hole_isOffGreen_4 (d := (d + 2)) (kt := fun c => (t_Hole_isOffGreen_19 (am_iff e (am_bz c)) q)) (kf := fun c => (t_Hole_isOffGreen_7 (am_ift e (am_bn c)) q))
theorem t_Hole_isOffGreen_0 {d : Nat} {x1 : Int32} {h : am_H} {Q : am_Q} {res : Bool} (e : f_Hole_isOffGreen h x1 = some res) (q : Q (some (.int (am_b res))) h) : am_W (X_Hole_isOffGreen (d + 2)) 0 [some (.ref 1), some (.int x1)] [] h Q :=
  b_Hole_isOffGreen_0 (d := (d + 1)) (k := c_Hole_isCell (d := d + 1) rfl (t_Hole_isOffGreen_4 e q))
theorem c_Hole_isOffGreen {d : Nat} {x1 : Int32} {h : am_H} {Q : am_Q} {res : Bool} (e : f_Hole_isOffGreen h x1 = some res) (q : Q (some (.int (am_b res))) h) : m_Hole_isOffGreen (d + 2) [.ref 1, .int x1] h Q :=
  e_Hole_isOffGreen (t_Hole_isOffGreen_0 e q)
theorem d_Club_isShot_0 : decode prog_1_method_13_code 0 = .ok (.iload_n 1, 1) := by decide +kernel
theorem d_Club_isShot_1 : decode prog_1_method_13_code 1 = .ok (.ifCond .lt 35, 3) := by decide +kernel
theorem d_Club_isShot_4 : decode prog_1_method_13_code 4 = .ok (.aload_n 0, 1) := by decide +kernel
theorem d_Club_isShot_5 : decode prog_1_method_13_code 5 = .ok (.getfield 12, 3) := by decide +kernel
theorem d_Club_isShot_8 : decode prog_1_method_13_code 8 = .ok (.iload_n 1, 1) := by decide +kernel
theorem d_Club_isShot_9 : decode prog_1_method_13_code 9 = .ok (.bipush 10, 2) := by decide +kernel
theorem d_Club_isShot_11 : decode prog_1_method_13_code 11 = .ok (.idiv, 1) := by decide +kernel
theorem d_Club_isShot_12 : decode prog_1_method_13_code 12 = .ok (.invokevirtual 187, 3) := by decide +kernel
theorem d_Club_isShot_15 : decode prog_1_method_13_code 15 = .ok (.ifCond .eq 21, 3) := by decide +kernel
theorem d_Club_isShot_18 : decode prog_1_method_13_code 18 = .ok (.aload_n 0, 1) := by decide +kernel
theorem d_Club_isShot_19 : decode prog_1_method_13_code 19 = .ok (.getfield 12, 3) := by decide +kernel
theorem d_Club_isShot_22 : decode prog_1_method_13_code 22 = .ok (.iload_n 1, 1) := by decide +kernel
theorem d_Club_isShot_23 : decode prog_1_method_13_code 23 = .ok (.bipush 10, 2) := by decide +kernel
theorem d_Club_isShot_25 : decode prog_1_method_13_code 25 = .ok (.irem, 1) := by decide +kernel
theorem d_Club_isShot_26 : decode prog_1_method_13_code 26 = .ok (.invokevirtual 193, 3) := by decide +kernel
theorem d_Club_isShot_29 : decode prog_1_method_13_code 29 = .ok (.ifCond .eq 7, 3) := by decide +kernel
theorem d_Club_isShot_32 : decode prog_1_method_13_code 32 = .ok (.iconst 1, 1) := by decide +kernel
theorem d_Club_isShot_33 : decode prog_1_method_13_code 33 = .ok (.goto 4, 3) := by decide +kernel
theorem d_Club_isShot_36 : decode prog_1_method_13_code 36 = .ok (.iconst 0, 1) := by decide +kernel
theorem d_Club_isShot_37 : decode prog_1_method_13_code 37 = .ok (.ireturn, 1) := by decide +kernel
theorem b_Club_isShot_0 {d : Nat} {x1 : Int32} {h : am_H} {Q : am_Q} (kt : x1 < 0 → am_W (X_Club_isShot d) 36 [some (.ref 0), some (.int x1)] [] h Q) (kf : ¬ x1 < 0 → am_W (X_Club_isShot d) 4 [some (.ref 0), some (.int x1)] [] h Q) : am_W (X_Club_isShot d) 0 [some (.ref 0), some (.int x1)] [] h Q :=
  am_iload_n d_Club_isShot_0 rfl (i := 1) rfl <|
    am_if_lt (tgt := 36) d_Club_isShot_1 (by decide) kt kf
theorem b_Club_isShot_4 {d : Nat} {x1 : Int32} {h : am_H} {Q : am_Q} (k : m_Hole_isOffGreen d [.ref 1, .int (x1 / 10)] h (fun r hh => am_W (X_Club_isShot (d + 1)) 15 [some (.ref 0), some (.int x1)] (r.toList ++ []) hh Q)) : am_W (X_Club_isShot (d + 1)) 4 [some (.ref 0), some (.int x1)] [] h Q :=
  am_aload_n d_Club_isShot_4 rfl (i := 0) rfl <|
    am_getR (ci := 0) (i := 0) rfl rfl rfl (Nat.le_of_ble_eq_true rfl) w_362 d_Club_isShot_5 <|
    am_iload_n d_Club_isShot_8 rfl (i := 1) rfl <|
    am_bipush (v := 10) d_Club_isShot_9 (by decide) <|
    am_idiv d_Club_isShot_11 (by decide) <|
    am_callV (vs := [.int (x1 / 10)]) (st := []) (k := 1) (ci := 1) rfl d_Club_isShot_12 rfl rfl w_670 w_671 w_672 w_84 w_673 p_Hole_isOffGreen (Nat.le_of_ble_eq_true rfl) (Nat.le_of_ble_eq_true rfl) rfl k
theorem b_Club_isShot_15 {d : Nat} {x1 : Int32} {y0 : Bool} {h : am_H} {Q : am_Q} (kt : (am_b y0) = 0 → am_W (X_Club_isShot d) 36 [some (.ref 0), some (.int x1)] [] h Q) (kf : ¬ (am_b y0) = 0 → am_W (X_Club_isShot d) 18 [some (.ref 0), some (.int x1)] [] h Q) : am_W (X_Club_isShot d) 15 [some (.ref 0), some (.int x1)] [.int (am_b y0)] h Q :=
  am_if_eq (tgt := 36) d_Club_isShot_15 (by decide) kt kf
theorem b_Club_isShot_18 {d : Nat} {x1 : Int32} {h : am_H} {Q : am_Q} (k : m_Hole_hasClub d [.ref 1, .int (x1 - x1 / 10 * 10)] h (fun r hh => am_W (X_Club_isShot (d + 1)) 29 [some (.ref 0), some (.int x1)] (r.toList ++ []) hh Q)) : am_W (X_Club_isShot (d + 1)) 18 [some (.ref 0), some (.int x1)] [] h Q :=
  am_aload_n d_Club_isShot_18 rfl (i := 0) rfl <|
    am_getR (ci := 0) (i := 0) rfl rfl rfl (Nat.le_of_ble_eq_true rfl) w_362 d_Club_isShot_19 <|
    am_iload_n d_Club_isShot_22 rfl (i := 1) rfl <|
    am_bipush (v := 10) d_Club_isShot_23 (by decide) <|
    am_irem d_Club_isShot_25 (by decide) <|
    am_callV (vs := [.int (x1 - x1 / 10 * 10)]) (st := []) (k := 1) (ci := 1) rfl d_Club_isShot_26 rfl rfl w_678 w_472 w_473 w_84 w_474 p_Hole_hasClub (Nat.le_of_ble_eq_true rfl) (Nat.le_of_ble_eq_true rfl) rfl k
theorem b_Club_isShot_29 {d : Nat} {x1 : Int32} {y0 : Bool} {h : am_H} {Q : am_Q} (kt : (am_b y0) = 0 → am_W (X_Club_isShot d) 36 [some (.ref 0), some (.int x1)] [] h Q) (kf : ¬ (am_b y0) = 0 → am_W (X_Club_isShot d) 32 [some (.ref 0), some (.int x1)] [] h Q) : am_W (X_Club_isShot d) 29 [some (.ref 0), some (.int x1)] [.int (am_b y0)] h Q :=
  am_if_eq (tgt := 36) d_Club_isShot_29 (by decide) kt kf
theorem b_Club_isShot_32 {d : Nat} {x1 : Int32} {h : am_H} {Q : am_Q} (q : Q (some (.int 1)) h) : am_W (X_Club_isShot d) 32 [some (.ref 0), some (.int x1)] [] h Q :=
  am_iconst (v := 1) d_Club_isShot_32 (by decide) <|
    am_goto (tgt := 37) d_Club_isShot_33 (by decide) <|
    am_zret (ty := .boolean) rfl (by decide) d_Club_isShot_37 q
theorem b_Club_isShot_36 {d : Nat} {x1 : Int32} {h : am_H} {Q : am_Q} (q : Q (some (.int 0)) h) : am_W (X_Club_isShot d) 36 [some (.ref 0), some (.int x1)] [] h Q :=
  am_iconst (v := 0) d_Club_isShot_36 (by decide) <|
    am_zret (ty := .boolean) rfl (by decide) d_Club_isShot_37 q
theorem t_Club_isShot_36 {d : Nat} {x1 : Int32} {h : am_H} {Q : am_Q} {res : Bool} (e : f_Club_isShot_36 h = some res) (q : Q (some (.int (am_b res))) h) : am_W (X_Club_isShot (d + 3)) 36 [some (.ref 0), some (.int x1)] [] h Q :=
  b_Club_isShot_36 (d := (d + 3)) (q := (am_rZp (v := false) e q))
theorem t_Club_isShot_32 {d : Nat} {x1 : Int32} {h : am_H} {Q : am_Q} {res : Bool} (e : f_Club_isShot_32 h = some res) (q : Q (some (.int (am_b res))) h) : am_W (X_Club_isShot (d + 3)) 32 [some (.ref 0), some (.int x1)] [] h Q :=
  b_Club_isShot_32 (d := (d + 3)) (q := (am_rZp (v := true) e q))
theorem t_Club_isShot_29 {d : Nat} {x1 : Int32} {y0 : Bool} {h : am_H} {Q : am_Q} {res : Bool} (e : f_Club_isShot_29 h y0 = some res) (q : Q (some (.int (am_b res))) h) : am_W (X_Club_isShot (d + 3)) 29 [some (.ref 0), some (.int x1)] [.int (am_b y0)] h Q :=
  b_Club_isShot_29 (d := (d + 3)) (kt := fun c => (t_Club_isShot_36 (am_iff e (am_bz c)) q)) (kf := fun c => (t_Club_isShot_32 (am_ift e (am_bn c)) q))
theorem t_Club_isShot_18 {d : Nat} {x1 : Int32} {h : am_H} {Q : am_Q} {res : Bool} (e : f_Club_isShot_18 h x1 = some res) (q : Q (some (.int (am_b res))) h) : am_W (X_Club_isShot (d + 3)) 18 [some (.ref 0), some (.int x1)] [] h Q :=
  b_Club_isShot_18 (d := (d + 2)) (k := c_Hole_hasClub (d := d + 2) rfl (t_Club_isShot_29 e q))
theorem t_Club_isShot_15 {d : Nat} {x1 : Int32} {y0 : Bool} {h : am_H} {Q : am_Q} {res : Bool} (e : f_Club_isShot_15 h x1 y0 = some res) (q : Q (some (.int (am_b res))) h) : am_W (X_Club_isShot (d + 3)) 15 [some (.ref 0), some (.int x1)] [.int (am_b y0)] h Q :=
  b_Club_isShot_15 (d := (d + 3)) (kt := fun c => (t_Club_isShot_36 (am_iff e (am_bz c)) q)) (kf := fun c => (t_Club_isShot_18 (am_ift e (am_bn c)) q))
theorem t_Club_isShot_4 {d : Nat} {x1 : Int32} {h : am_H} {Q : am_Q} {res : Bool} (e : f_Club_isShot_4 h x1 = some res) (q : Q (some (.int (am_b res))) h) : am_W (X_Club_isShot (d + 3)) 4 [some (.ref 0), some (.int x1)] [] h Q :=
  (am_bd e).elim fun p hp => b_Club_isShot_4 (d := (d + 2)) (k := c_Hole_isOffGreen (d := d) hp.1 (t_Club_isShot_15 hp.2 q))
theorem t_Club_isShot_0 {d : Nat} {x1 : Int32} {h : am_H} {Q : am_Q} {res : Bool} (e : f_Club_isShot h x1 = some res) (q : Q (some (.int (am_b res))) h) : am_W (X_Club_isShot (d + 3)) 0 [some (.ref 0), some (.int x1)] [] h Q :=
  b_Club_isShot_0 (d := (d + 3)) (kt := fun c => (t_Club_isShot_36 (am_ift e c) q)) (kf := fun c => (t_Club_isShot_4 (am_ife e c) q))
theorem c_Club_isShot {d : Nat} {x1 : Int32} {h : am_H} {Q : am_Q} {res : Bool} (e : f_Club_isShot h x1 = some res) (q : Q (some (.int (am_b res))) h) : m_Club_isShot (d + 3) [.ref 0, .int x1] h Q :=
  e_Club_isShot (t_Club_isShot_0 e q)
theorem d_Club_sharedDivisor_0 : decode prog_1_method_46_code 0 = .ok (.iconst 0, 1) := by decide +kernel
theorem d_Club_sharedDivisor_1 : decode prog_1_method_46_code 1 = .ok (.istore 4, 2) := by decide +kernel
theorem d_Club_sharedDivisor_3 : decode prog_1_method_46_code 3 = .ok (.iload 4, 2) := by decide +kernel
theorem d_Club_sharedDivisor_5 : decode prog_1_method_46_code 5 = .ok (.sipush 200, 3) := by decide +kernel
theorem d_Club_sharedDivisor_8 : decode prog_1_method_46_code 8 = .ok (.if_icmp .ge 25, 3) := by decide +kernel
theorem d_Club_sharedDivisor_11 : decode prog_1_method_46_code 11 = .ok (.lload_n 2, 1) := by decide +kernel
theorem d_Club_sharedDivisor_12 : decode prog_1_method_46_code 12 = .ok (.lconst 0, 1) := by decide +kernel
theorem d_Club_sharedDivisor_13 : decode prog_1_method_46_code 13 = .ok (.lcmp, 1) := by decide +kernel
theorem d_Club_sharedDivisor_14 : decode prog_1_method_46_code 14 = .ok (.ifCond .eq 19, 3) := by decide +kernel
theorem d_Club_sharedDivisor_17 : decode prog_1_method_46_code 17 = .ok (.lload_n 0, 1) := by decide +kernel
theorem d_Club_sharedDivisor_18 : decode prog_1_method_46_code 18 = .ok (.lload_n 2, 1) := by decide +kernel
theorem d_Club_sharedDivisor_19 : decode prog_1_method_46_code 19 = .ok (.lrem, 1) := by decide +kernel
theorem d_Club_sharedDivisor_20 : decode prog_1_method_46_code 20 = .ok (.lstore 5, 2) := by decide +kernel
theorem d_Club_sharedDivisor_22 : decode prog_1_method_46_code 22 = .ok (.lload_n 2, 1) := by decide +kernel
theorem d_Club_sharedDivisor_23 : decode prog_1_method_46_code 23 = .ok (.lstore_n 0, 1) := by decide +kernel
theorem d_Club_sharedDivisor_24 : decode prog_1_method_46_code 24 = .ok (.lload 5, 2) := by decide +kernel
theorem d_Club_sharedDivisor_26 : decode prog_1_method_46_code 26 = .ok (.lstore_n 2, 1) := by decide +kernel
theorem d_Club_sharedDivisor_27 : decode prog_1_method_46_code 27 = .ok (.iinc 4 1, 3) := by decide +kernel
theorem d_Club_sharedDivisor_30 : decode prog_1_method_46_code 30 = .ok (.goto (-27), 3) := by decide +kernel
theorem d_Club_sharedDivisor_33 : decode prog_1_method_46_code 33 = .ok (.lload_n 0, 1) := by decide +kernel
theorem d_Club_sharedDivisor_34 : decode prog_1_method_46_code 34 = .ok (.lreturn, 1) := by decide +kernel
theorem b_Club_sharedDivisor_0 {d : Nat} {x0 : Int64} {x2 : Int64} {h : am_H} {Q : am_Q} (k : am_W (X_Club_sharedDivisor d) 3 [some (.long x0), none, some (.long x2), none, some (.int 0), none, none] [] h Q) : am_W (X_Club_sharedDivisor d) 0 [some (.long x0), none, some (.long x2), none, none, none, none] [] h Q :=
  am_iconst (v := 0) d_Club_sharedDivisor_0 (by decide) <|
    am_istore (ls' := [some (.long x0), none, some (.long x2), none, some (.int 0), none, none]) d_Club_sharedDivisor_1 (Nat.le_of_ble_eq_true rfl) rfl <|
    k
theorem b_Club_sharedDivisor_3 {d : Nat} {x0 : Int64} {x2 : Int64} {x4 : Int32} {h : am_H} {Q : am_Q} (kt : 200 ≤ x4 → am_W (X_Club_sharedDivisor d) 33 [some (.long x0), none, some (.long x2), none, some (.int x4), none, none] [] h Q) (kf : ¬ 200 ≤ x4 → am_W (X_Club_sharedDivisor d) 11 [some (.long x0), none, some (.long x2), none, some (.int x4), none, none] [] h Q) : am_W (X_Club_sharedDivisor d) 3 [some (.long x0), none, some (.long x2), none, some (.int x4), none, none] [] h Q :=
  am_iload d_Club_sharedDivisor_3 rfl <|
    am_sipush (v := 200) d_Club_sharedDivisor_5 (by decide) <|
    am_icmp_ge (tgt := 33) d_Club_sharedDivisor_8 (by decide) kt kf
theorem b_Club_sharedDivisor_11 {d : Nat} {x0 : Int64} {x2 : Int64} {x4 : Int32} {h : am_H} {Q : am_Q} (kt : x2 = 0 → am_W (X_Club_sharedDivisor d) 33 [some (.long x0), none, some (.long x2), none, some (.int x4), none, none] [] h Q) (kf : ¬ x2 = 0 → am_W (X_Club_sharedDivisor d) 17 [some (.long x0), none, some (.long x2), none, some (.int x4), none, none] [] h Q) : am_W (X_Club_sharedDivisor d) 11 [some (.long x0), none, some (.long x2), none, some (.int x4), none, none] [] h Q :=
  am_lload_n d_Club_sharedDivisor_11 rfl (i := 2) rfl <|
    am_lconst (v := 0) d_Club_sharedDivisor_12 (by decide) <|
    am_lc_if_eq (tgt := 33) d_Club_sharedDivisor_13 d_Club_sharedDivisor_14 (by decide) kt kf
theorem b_Club_sharedDivisor_17 {d : Nat} {x0 : Int64} {x2 : Int64} {x4 : Int32} {h : am_H} {Q : am_Q} (q0 : ¬ x2 = 0) (k : am_W (X_Club_sharedDivisor d) 3 [some (.long x2), none, some (.long (x0 - x0 / x2 * x2)), none, some (.int (x4 + 1)), some (.long (x0 - x0 / x2 * x2)), none] [] h Q) : am_W (X_Club_sharedDivisor d) 17 [some (.long x0), none, some (.long x2), none, some (.int x4), none, none] [] h Q :=
  am_lload_n d_Club_sharedDivisor_17 rfl (i := 0) rfl <|
    am_lload_n d_Club_sharedDivisor_18 rfl (i := 2) rfl <|
    am_lrem d_Club_sharedDivisor_19 q0 <|
    am_lstore (ls' := [some (.long x0), none, some (.long x2), none, some (.int x4), some (.long (x0 - x0 / x2 * x2)), none]) d_Club_sharedDivisor_20 (Nat.le_of_ble_eq_true rfl) rfl <|
    am_lload_n d_Club_sharedDivisor_22 rfl (i := 2) rfl <|
    am_lstore_n (ls' := [some (.long x2), none, some (.long x2), none, some (.int x4), some (.long (x0 - x0 / x2 * x2)), none]) d_Club_sharedDivisor_23 rfl (Nat.le_of_ble_eq_true rfl) rfl <|
    am_lload d_Club_sharedDivisor_24 rfl <|
    am_lstore_n (ls' := [some (.long x2), none, some (.long (x0 - x0 / x2 * x2)), none, some (.int x4), some (.long (x0 - x0 / x2 * x2)), none]) d_Club_sharedDivisor_26 rfl (Nat.le_of_ble_eq_true rfl) rfl <|
    am_iinc (v := (x4 + 1)) (ls' := [some (.long x2), none, some (.long (x0 - x0 / x2 * x2)), none, some (.int (x4 + 1)), some (.long (x0 - x0 / x2 * x2)), none]) d_Club_sharedDivisor_27 rfl rfl (Nat.le_of_ble_eq_true rfl) rfl <|
    am_goto (tgt := 3) d_Club_sharedDivisor_30 (by decide) k
theorem b_Club_sharedDivisor_33 {d : Nat} {x0 : Int64} {x2 : Int64} {x4 : Int32} {h : am_H} {Q : am_Q} (q : Q (some (.long x0)) h) : am_W (X_Club_sharedDivisor d) 33 [some (.long x0), none, some (.long x2), none, some (.int x4), none, none] [] h Q :=
  am_lload_n d_Club_sharedDivisor_33 rfl (i := 0) rfl <|
    am_lret rfl d_Club_sharedDivisor_34 q
theorem t_Club_sharedDivisor_33 {d : Nat} {x0 : Int64} {x2 : Int64} {x4 : Int32} {h : am_H} {Q : am_Q} {res : Int64} (e : f_Club_sharedDivisor_33 x0 = some res) (q : Q (some (.long res)) h) : am_W (X_Club_sharedDivisor d) 33 [some (.long x0), none, some (.long x2), none, some (.int x4), none, none] [] h Q :=
  b_Club_sharedDivisor_33 (d := d) (q := (am_rJp (v := x0) e q))
theorem t_Club_sharedDivisor_17 {d : Nat} {k3 : Int64 → Int64 → Int32 → Option (Int64)} {x0 : Int64} {x2 : Int64} {x4 : Int32} {h : am_H} {Q : am_Q} {res : Int64} (hk3 : ∀ (x0 : Int64) (x2 : Int64) (x4 : Int32), k3 x0 x2 x4 = some res → am_W (X_Club_sharedDivisor d) 3 [some (.long x0), none, some (.long x2), none, some (.int x4), none, none] [] h Q) (e : f_Club_sharedDivisor_17 k3 x0 x2 x4 = some res) (q : Q (some (.long res)) h) : am_W (X_Club_sharedDivisor d) 17 [some (.long x0), none, some (.long x2), none, some (.int x4), none, none] [] h Q :=
  b_Club_sharedDivisor_17 (d := d) (q0 := (am_gd e)) (k := (am_wk2 (hk3 _ _ _ (am_ga e)) ⟨rfl, ⟨rfl, ⟨rfl, trivial⟩⟩⟩))
theorem t_Club_sharedDivisor_11 {d : Nat} {k3 : Int64 → Int64 → Int32 → Option (Int64)} {x0 : Int64} {x2 : Int64} {x4 : Int32} {h : am_H} {Q : am_Q} {res : Int64} (hk3 : ∀ (x0 : Int64) (x2 : Int64) (x4 : Int32), k3 x0 x2 x4 = some res → am_W (X_Club_sharedDivisor d) 3 [some (.long x0), none, some (.long x2), none, some (.int x4), none, none] [] h Q) (e : f_Club_sharedDivisor_11 k3 x0 x2 x4 = some res) (q : Q (some (.long res)) h) : am_W (X_Club_sharedDivisor d) 11 [some (.long x0), none, some (.long x2), none, some (.int x4), none, none] [] h Q :=
  b_Club_sharedDivisor_11 (d := d) (kt := fun c => (t_Club_sharedDivisor_33 (am_ift e c) q)) (kf := fun c => (t_Club_sharedDivisor_17 hk3 (am_ife e c) q))
theorem t_Club_sharedDivisor_3 {d : Nat} {k3 : Int64 → Int64 → Int32 → Option (Int64)} {x0 : Int64} {x2 : Int64} {x4 : Int32} {h : am_H} {Q : am_Q} {res : Int64} (hk3 : ∀ (x0 : Int64) (x2 : Int64) (x4 : Int32), k3 x0 x2 x4 = some res → am_W (X_Club_sharedDivisor d) 3 [some (.long x0), none, some (.long x2), none, some (.int x4), none, none] [] h Q) (e : f_Club_sharedDivisor_3 k3 x0 x2 x4 = some res) (q : Q (some (.long res)) h) : am_W (X_Club_sharedDivisor d) 3 [some (.long x0), none, some (.long x2), none, some (.int x4), none, none] [] h Q :=
  b_Club_sharedDivisor_3 (d := d) (kt := fun c => (t_Club_sharedDivisor_33 (am_ift e c) q)) (kf := fun c => (t_Club_sharedDivisor_11 hk3 (am_ife e c) q))
theorem t_Club_sharedDivisor_3_l {d : Nat} {h : am_H} {Q : am_Q} {res : Int64} (q : Q (some (.long res)) h) : ∀ (n : Nat) (x0 : Int64) (x2 : Int64) (x4 : Int32), f_Club_sharedDivisor_3_l n x0 x2 x4 = some res → am_W (X_Club_sharedDivisor d) 3 [some (.long x0), none, some (.long x2), none, some (.int x4), none, none] [] h Q := by
  intro n
  induction n with
  | zero => intro x0 x2 x4 e; exact am_nn e
  | succ n ih => intro x0 x2 x4 e; exact t_Club_sharedDivisor_3 (fun x0 x2 x4 e => ih x0 x2 x4  e) e q
theorem t_Club_sharedDivisor_0 {d : Nat} {x0 : Int64} {x2 : Int64} {h : am_H} {Q : am_Q} {res : Int64} (e : f_Club_sharedDivisor x0 x2 = some res) (q : Q (some (.long res)) h) : am_W (X_Club_sharedDivisor d) 0 [some (.long x0), none, some (.long x2), none, none, none, none] [] h Q :=
  b_Club_sharedDivisor_0 (d := d) (k := (t_Club_sharedDivisor_3_l q am_fu _ _ _ e))
theorem c_Club_sharedDivisor {d : Nat} {x0 : Int64} {x2 : Int64} {h : am_H} {Q : am_Q} {res : Int64} (e : f_Club_sharedDivisor x0 x2 = some res) (q : Q (some (.long res)) h) : m_Club_sharedDivisor d [.long x0, .long x2] h Q :=
  e_Club_sharedDivisor (t_Club_sharedDivisor_0 e q)
theorem d_Club_partOf_0 : decode prog_1_method_45_code 0 = .ok (.lload_n 0, 1) := by decide +kernel
theorem d_Club_partOf_1 : decode prog_1_method_45_code 1 = .ok (.invokestatic 396, 3) := by decide +kernel
theorem d_Club_partOf_4 : decode prog_1_method_45_code 4 = .ok (.lload_n 2, 1) := by decide +kernel
theorem d_Club_partOf_5 : decode prog_1_method_45_code 5 = .ok (.invokestatic 402, 3) := by decide +kernel
theorem d_Club_partOf_8 : decode prog_1_method_45_code 8 = .ok (.lstore 5, 2) := by decide +kernel
theorem d_Club_partOf_10 : decode prog_1_method_45_code 10 = .ok (.lload 5, 2) := by decide +kernel
theorem d_Club_partOf_12 : decode prog_1_method_45_code 12 = .ok (.lconst 0, 1) := by decide +kernel
theorem d_Club_partOf_13 : decode prog_1_method_45_code 13 = .ok (.lcmp, 1) := by decide +kernel
theorem d_Club_partOf_14 : decode prog_1_method_45_code 14 = .ok (.ifCond .gt 7, 3) := by decide +kernel
theorem d_Club_partOf_17 : decode prog_1_method_45_code 17 = .ok (.ldc2_w 155, 3) := by decide +kernel
theorem d_Club_partOf_20 : decode prog_1_method_45_code 20 = .ok (.lreturn, 1) := by decide +kernel
theorem d_Club_partOf_21 : decode prog_1_method_45_code 21 = .ok (.iload 4, 2) := by decide +kernel
theorem d_Club_partOf_23 : decode prog_1_method_45_code 23 = .ok (.ifCond .ne 10, 3) := by decide +kernel
theorem d_Club_partOf_26 : decode prog_1_method_45_code 26 = .ok (.lload_n 0, 1) := by decide +kernel
theorem d_Club_partOf_27 : decode prog_1_method_45_code 27 = .ok (.lload 5, 2) := by decide +kernel
theorem d_Club_partOf_29 : decode prog_1_method_45_code 29 = .ok (.ldiv, 1) := by decide +kernel
theorem d_Club_partOf_30 : decode prog_1_method_45_code 30 = .ok (.goto 7, 3) := by decide +kernel
theorem d_Club_partOf_33 : decode prog_1_method_45_code 33 = .ok (.lload_n 2, 1) := by decide +kernel
theorem d_Club_partOf_34 : decode prog_1_method_45_code 34 = .ok (.lload 5, 2) := by decide +kernel
theorem d_Club_partOf_36 : decode prog_1_method_45_code 36 = .ok (.ldiv, 1) := by decide +kernel
theorem d_Club_partOf_37 : decode prog_1_method_45_code 37 = .ok (.lreturn, 1) := by decide +kernel
theorem b_Club_partOf_0 {d : Nat} {x0 : Int64} {x2 : Int64} {x4 : Int32} {h : am_H} {Q : am_Q} (k : m_Club_sharedDivisor d [.long (if 0 < x0 then x0 else -x0), .long x2] h (fun r hh => am_W (X_Club_partOf (d + 1)) 8 [some (.long x0), none, some (.long x2), none, some (.int x4), none, none] (r.toList ++ []) hh Q)) : am_W (X_Club_partOf (d + 1)) 0 [some (.long x0), none, some (.long x2), none, some (.int x4), none, none] [] h Q :=
  am_lload_n d_Club_partOf_0 rfl (i := 0) rfl <|
    am_mabsl w_715 d_Club_partOf_1 (Nat.le_of_ble_eq_true rfl) <|
    am_lload_n d_Club_partOf_4 rfl (i := 2) rfl <|
    am_callS (vs := [.long (if 0 < x0 then x0 else -x0), .long x2]) (st := []) rfl d_Club_partOf_5 w_718 w_719 w_83 w_720 p_Club_sharedDivisor (Nat.le_of_ble_eq_true rfl) (Nat.le_of_ble_eq_true rfl) rfl k
theorem b_Club_partOf_8 {d : Nat} {x0 : Int64} {x2 : Int64} {x4 : Int32} {y0 : Int64} {h : am_H} {Q : am_Q} (kt : 0 < y0 → am_W (X_Club_partOf d) 21 [some (.long x0), none, some (.long x2), none, some (.int x4), some (.long y0), none] [] h Q) (kf : ¬ 0 < y0 → am_W (X_Club_partOf d) 17 [some (.long x0), none, some (.long x2), none, some (.int x4), some (.long y0), none] [] h Q) : am_W (X_Club_partOf d) 8 [some (.long x0), none, some (.long x2), none, some (.int x4), none, none] [.long y0] h Q :=
  am_lstore (ls' := [some (.long x0), none, some (.long x2), none, some (.int x4), some (.long y0), none]) d_Club_partOf_8 (Nat.le_of_ble_eq_true rfl) rfl <|
    am_lload d_Club_partOf_10 rfl <|
    am_lconst (v := 0) d_Club_partOf_12 (by decide) <|
    am_lc_if_gt (tgt := 21) d_Club_partOf_13 d_Club_partOf_14 (by decide) kt kf
theorem b_Club_partOf_17 {d : Nat} {x0 : Int64} {x2 : Int64} {x4 : Int32} {x5 : Int64} {h : am_H} {Q : am_Q} (q : Q (some (.long (-9223372036854775808))) h) : am_W (X_Club_partOf d) 17 [some (.long x0), none, some (.long x2), none, some (.int x4), some (.long x5), none] [] h Q :=
  am_ldc2 (v := (-9223372036854775808)) d_Club_partOf_17 w_683 <|
    am_lret rfl d_Club_partOf_20 q
theorem b_Club_partOf_21 {d : Nat} {x0 : Int64} {x2 : Int64} {x4 : Int32} {x5 : Int64} {h : am_H} {Q : am_Q} (kt : ¬ x4 = 0 → am_W (X_Club_partOf d) 33 [some (.long x0), none, some (.long x2), none, some (.int x4), some (.long x5), none] [] h Q) (kf : x4 = 0 → am_W (X_Club_partOf d) 26 [some (.long x0), none, some (.long x2), none, some (.int x4), some (.long x5), none] [] h Q) : am_W (X_Club_partOf d) 21 [some (.long x0), none, some (.long x2), none, some (.int x4), some (.long x5), none] [] h Q :=
  am_iload d_Club_partOf_21 rfl <|
    am_if_ne (tgt := 33) d_Club_partOf_23 (by decide) kt kf
theorem b_Club_partOf_26 {d : Nat} {x0 : Int64} {x2 : Int64} {x4 : Int32} {x5 : Int64} {h : am_H} {Q : am_Q} (q0 : ¬ x5 = 0) (q : Q (some (.long (x0 / x5))) h) : am_W (X_Club_partOf d) 26 [some (.long x0), none, some (.long x2), none, some (.int x4), some (.long x5), none] [] h Q :=
  am_lload_n d_Club_partOf_26 rfl (i := 0) rfl <|
    am_lload d_Club_partOf_27 rfl <|
    am_ldiv d_Club_partOf_29 q0 <|
    am_goto (tgt := 37) d_Club_partOf_30 (by decide) <|
    am_lret rfl d_Club_partOf_37 q
theorem b_Club_partOf_33 {d : Nat} {x0 : Int64} {x2 : Int64} {x4 : Int32} {x5 : Int64} {h : am_H} {Q : am_Q} (q0 : ¬ x5 = 0) (q : Q (some (.long (x2 / x5))) h) : am_W (X_Club_partOf d) 33 [some (.long x0), none, some (.long x2), none, some (.int x4), some (.long x5), none] [] h Q :=
  am_lload_n d_Club_partOf_33 rfl (i := 2) rfl <|
    am_lload d_Club_partOf_34 rfl <|
    am_ldiv d_Club_partOf_36 q0 <|
    am_lret rfl d_Club_partOf_37 q
theorem t_Club_partOf_33 {d : Nat} {x0 : Int64} {x2 : Int64} {x4 : Int32} {x5 : Int64} {h : am_H} {Q : am_Q} {res : Int64} (e : f_Club_partOf_33 x2 x5 = some res) (q : Q (some (.long res)) h) : am_W (X_Club_partOf (d + 1)) 33 [some (.long x0), none, some (.long x2), none, some (.int x4), some (.long x5), none] [] h Q :=
  b_Club_partOf_33 (d := (d + 1)) (q0 := (am_gd e)) (q := (am_rJp (v := (x2 / x5)) (am_ga e) q))
theorem t_Club_partOf_26 {d : Nat} {x0 : Int64} {x2 : Int64} {x4 : Int32} {x5 : Int64} {h : am_H} {Q : am_Q} {res : Int64} (e : f_Club_partOf_26 x0 x5 = some res) (q : Q (some (.long res)) h) : am_W (X_Club_partOf (d + 1)) 26 [some (.long x0), none, some (.long x2), none, some (.int x4), some (.long x5), none] [] h Q :=
  b_Club_partOf_26 (d := (d + 1)) (q0 := (am_gd e)) (q := (am_rJp (v := (x0 / x5)) (am_ga e) q))
theorem t_Club_partOf_21 {d : Nat} {x0 : Int64} {x2 : Int64} {x4 : Int32} {x5 : Int64} {h : am_H} {Q : am_Q} {res : Int64} (e : f_Club_partOf_21 x0 x2 x4 x5 = some res) (q : Q (some (.long res)) h) : am_W (X_Club_partOf (d + 1)) 21 [some (.long x0), none, some (.long x2), none, some (.int x4), some (.long x5), none] [] h Q :=
  b_Club_partOf_21 (d := (d + 1)) (kt := fun c => (t_Club_partOf_33 (am_ife e c) q)) (kf := fun c => (t_Club_partOf_26 (am_ift e c) q))
theorem t_Club_partOf_17 {d : Nat} {x0 : Int64} {x2 : Int64} {x4 : Int32} {x5 : Int64} {h : am_H} {Q : am_Q} {res : Int64} (e : f_Club_partOf_17 = some res) (q : Q (some (.long res)) h) : am_W (X_Club_partOf (d + 1)) 17 [some (.long x0), none, some (.long x2), none, some (.int x4), some (.long x5), none] [] h Q :=
  b_Club_partOf_17 (d := (d + 1)) (q := (am_rJp (v := (-9223372036854775808)) e q))
theorem t_Club_partOf_8 {d : Nat} {x0 : Int64} {x2 : Int64} {x4 : Int32} {y0 : Int64} {h : am_H} {Q : am_Q} {res : Int64} (e : f_Club_partOf_8 x0 x2 x4 y0 = some res) (q : Q (some (.long res)) h) : am_W (X_Club_partOf (d + 1)) 8 [some (.long x0), none, some (.long x2), none, some (.int x4), none, none] [.long y0] h Q :=
  b_Club_partOf_8 (d := (d + 1)) (kt := fun c => (t_Club_partOf_21 (am_ift e c) q)) (kf := fun c => (t_Club_partOf_17 (am_ife e c) q))
theorem t_Club_partOf_0 {d : Nat} {x0 : Int64} {x2 : Int64} {x4 : Int32} {h : am_H} {Q : am_Q} {res : Int64} (e : f_Club_partOf x0 x2 x4 = some res) (q : Q (some (.long res)) h) : am_W (X_Club_partOf (d + 1)) 0 [some (.long x0), none, some (.long x2), none, some (.int x4), none, none] [] h Q :=
  (am_bd e).elim fun p hp => b_Club_partOf_0 (d := d) (k := c_Club_sharedDivisor (d := d) hp.1 (t_Club_partOf_8 hp.2 q))
theorem c_Club_partOf {d : Nat} {x0 : Int64} {x2 : Int64} {x4 : Int32} {h : am_H} {Q : am_Q} {res : Int64} (e : f_Club_partOf x0 x2 x4 = some res) (q : Q (some (.long res)) h) : m_Club_partOf (d + 1) [.long x0, .long x2, .int x4] h Q :=
  e_Club_partOf (t_Club_partOf_0 e q)
theorem d_Hole_carryOf_0 : decode prog_5_method_15_code 0 = .ok (.aload_n 0, 1) := by decide +kernel
theorem d_Hole_carryOf_1 : decode prog_5_method_15_code 1 = .ok (.iload_n 1, 1) := by decide +kernel
theorem d_Hole_carryOf_2 : decode prog_5_method_15_code 2 = .ok (.invokevirtual 63, 3) := by decide +kernel
theorem d_Hole_carryOf_5 : decode prog_5_method_15_code 5 = .ok (.ifCond .eq 12, 3) := by decide +kernel
theorem d_Hole_carryOf_8 : decode prog_5_method_15_code 8 = .ok (.aload_n 0, 1) := by decide +kernel
theorem d_Hole_carryOf_9 : decode prog_5_method_15_code 9 = .ok (.getfield 15, 3) := by decide +kernel
theorem d_Hole_carryOf_12 : decode prog_5_method_15_code 12 = .ok (.iload_n 1, 1) := by decide +kernel
theorem d_Hole_carryOf_13 : decode prog_5_method_15_code 13 = .ok (.iaload, 1) := by decide +kernel
theorem d_Hole_carryOf_14 : decode prog_5_method_15_code 14 = .ok (.goto 4, 3) := by decide +kernel
theorem d_Hole_carryOf_17 : decode prog_5_method_15_code 17 = .ok (.iconst 0, 1) := by decide +kernel
theorem d_Hole_carryOf_18 : decode prog_5_method_15_code 18 = .ok (.ireturn, 1) := by decide +kernel
theorem b_Hole_carryOf_0 {d : Nat} {x1 : Int32} {h : am_H} {Q : am_Q} (k : m_Hole_hasClub d [.ref 1, .int x1] h (fun r hh => am_W (X_Hole_carryOf (d + 1)) 5 [some (.ref 1), some (.int x1)] (r.toList ++ []) hh Q)) : am_W (X_Hole_carryOf (d + 1)) 0 [some (.ref 1), some (.int x1)] [] h Q :=
  am_aload_n d_Hole_carryOf_0 rfl (i := 0) rfl <|
    am_iload_n d_Hole_carryOf_1 rfl (i := 1) rfl <|
    am_callV (vs := [.int x1]) (st := []) (k := 1) (ci := 1) rfl d_Hole_carryOf_2 rfl rfl w_471 w_472 w_473 w_84 w_474 p_Hole_hasClub (Nat.le_of_ble_eq_true rfl) (Nat.le_of_ble_eq_true rfl) rfl k
theorem b_Hole_carryOf_5 {d : Nat} {x1 : Int32} {y0 : Bool} {h : am_H} {Q : am_Q} (kt : (am_b y0) = 0 → am_W (X_Hole_carryOf d) 17 [some (.ref 1), some (.int x1)] [] h Q) (kf : ¬ (am_b y0) = 0 → am_W (X_Hole_carryOf d) 8 [some (.ref 1), some (.int x1)] [] h Q) : am_W (X_Hole_carryOf d) 5 [some (.ref 1), some (.int x1)] [.int (am_b y0)] h Q :=
  am_if_eq (tgt := 17) d_Hole_carryOf_5 (by decide) kt kf
theorem b_Hole_carryOf_8 {d : Nat} {x1 : Int32} {h : am_H} {Q : am_Q} (q0 : vp_in x1 6) (q : Q (some (.int (h.1 3 x1.toNatClampNeg))) h) : am_W (X_Hole_carryOf d) 8 [some (.ref 1), some (.int x1)] [] h Q :=
  am_aload_n d_Hole_carryOf_8 rfl (i := 0) rfl <|
    am_getR (ci := 1) (i := 1) rfl rfl rfl (Nat.le_of_ble_eq_true rfl) w_123 d_Hole_carryOf_9 <|
    am_iload_n d_Hole_carryOf_12 rfl (i := 1) rfl <|
    am_iald rfl q0 d_Hole_carryOf_13 <|
    am_goto (tgt := 18) d_Hole_carryOf_14 (by decide) <|
    am_iret rfl d_Hole_carryOf_18 q
theorem b_Hole_carryOf_17 {d : Nat} {x1 : Int32} {h : am_H} {Q : am_Q} (q : Q (some (.int 0)) h) : am_W (X_Hole_carryOf d) 17 [some (.ref 1), some (.int x1)] [] h Q :=
  am_iconst (v := 0) d_Hole_carryOf_17 (by decide) <|
    am_iret rfl d_Hole_carryOf_18 q
theorem t_Hole_carryOf_17 {d : Nat} {x1 : Int32} {h : am_H} {Q : am_Q} {res : Int32} (e : f_Hole_carryOf_17 h = some res) (q : Q (some (.int res)) h) : am_W (X_Hole_carryOf (d + 1)) 17 [some (.ref 1), some (.int x1)] [] h Q :=
  b_Hole_carryOf_17 (d := (d + 1)) (q := (am_rIp (v := 0) e q))
theorem t_Hole_carryOf_8 {d : Nat} {x1 : Int32} {h : am_H} {Q : am_Q} {res : Int32} (e : f_Hole_carryOf_8 h x1 = some res) (q : Q (some (.int res)) h) : am_W (X_Hole_carryOf (d + 1)) 8 [some (.ref 1), some (.int x1)] [] h Q :=
  b_Hole_carryOf_8 (d := (d + 1)) (q0 := (am_okv (am_gd e))) (q := (am_rIp (v := (h.1 3 x1.toNatClampNeg)) (am_ga e) q))
theorem t_Hole_carryOf_5 {d : Nat} {x1 : Int32} {y0 : Bool} {h : am_H} {Q : am_Q} {res : Int32} (e : f_Hole_carryOf_5 h x1 y0 = some res) (q : Q (some (.int res)) h) : am_W (X_Hole_carryOf (d + 1)) 5 [some (.ref 1), some (.int x1)] [.int (am_b y0)] h Q :=
  b_Hole_carryOf_5 (d := (d + 1)) (kt := fun c => (t_Hole_carryOf_17 (am_iff e (am_bz c)) q)) (kf := fun c => (t_Hole_carryOf_8 (am_ift e (am_bn c)) q))
theorem t_Hole_carryOf_0 {d : Nat} {x1 : Int32} {h : am_H} {Q : am_Q} {res : Int32} (e : f_Hole_carryOf h x1 = some res) (q : Q (some (.int res)) h) : am_W (X_Hole_carryOf (d + 1)) 0 [some (.ref 1), some (.int x1)] [] h Q :=
  b_Hole_carryOf_0 (d := d) (k := c_Hole_hasClub (d := d) rfl (t_Hole_carryOf_5 e q))
theorem c_Hole_carryOf {d : Nat} {x1 : Int32} {h : am_H} {Q : am_Q} {res : Int32} (e : f_Hole_carryOf h x1 = some res) (q : Q (some (.int res)) h) : m_Hole_carryOf (d + 1) [.ref 1, .int x1] h Q :=
  e_Hole_carryOf (t_Hole_carryOf_0 e q)
theorem d_Hole_spreadOf_0 : decode prog_5_method_16_code 0 = .ok (.aload_n 0, 1) := by decide +kernel
theorem d_Hole_spreadOf_1 : decode prog_5_method_16_code 1 = .ok (.iload_n 1, 1) := by decide +kernel
theorem d_Hole_spreadOf_2 : decode prog_5_method_16_code 2 = .ok (.invokevirtual 63, 3) := by decide +kernel
theorem d_Hole_spreadOf_5 : decode prog_5_method_16_code 5 = .ok (.ifCond .eq 12, 3) := by decide +kernel
theorem d_Hole_spreadOf_8 : decode prog_5_method_16_code 8 = .ok (.aload_n 0, 1) := by decide +kernel
theorem d_Hole_spreadOf_9 : decode prog_5_method_16_code 9 = .ok (.getfield 18, 3) := by decide +kernel
theorem d_Hole_spreadOf_12 : decode prog_5_method_16_code 12 = .ok (.iload_n 1, 1) := by decide +kernel
theorem d_Hole_spreadOf_13 : decode prog_5_method_16_code 13 = .ok (.iaload, 1) := by decide +kernel
theorem d_Hole_spreadOf_14 : decode prog_5_method_16_code 14 = .ok (.goto 4, 3) := by decide +kernel
theorem d_Hole_spreadOf_17 : decode prog_5_method_16_code 17 = .ok (.iconst 0, 1) := by decide +kernel
theorem d_Hole_spreadOf_18 : decode prog_5_method_16_code 18 = .ok (.ireturn, 1) := by decide +kernel
theorem b_Hole_spreadOf_0 {d : Nat} {x1 : Int32} {h : am_H} {Q : am_Q} (k : m_Hole_hasClub d [.ref 1, .int x1] h (fun r hh => am_W (X_Hole_spreadOf (d + 1)) 5 [some (.ref 1), some (.int x1)] (r.toList ++ []) hh Q)) : am_W (X_Hole_spreadOf (d + 1)) 0 [some (.ref 1), some (.int x1)] [] h Q :=
  am_aload_n d_Hole_spreadOf_0 rfl (i := 0) rfl <|
    am_iload_n d_Hole_spreadOf_1 rfl (i := 1) rfl <|
    am_callV (vs := [.int x1]) (st := []) (k := 1) (ci := 1) rfl d_Hole_spreadOf_2 rfl rfl w_471 w_472 w_473 w_84 w_474 p_Hole_hasClub (Nat.le_of_ble_eq_true rfl) (Nat.le_of_ble_eq_true rfl) rfl k
theorem b_Hole_spreadOf_5 {d : Nat} {x1 : Int32} {y0 : Bool} {h : am_H} {Q : am_Q} (kt : (am_b y0) = 0 → am_W (X_Hole_spreadOf d) 17 [some (.ref 1), some (.int x1)] [] h Q) (kf : ¬ (am_b y0) = 0 → am_W (X_Hole_spreadOf d) 8 [some (.ref 1), some (.int x1)] [] h Q) : am_W (X_Hole_spreadOf d) 5 [some (.ref 1), some (.int x1)] [.int (am_b y0)] h Q :=
  am_if_eq (tgt := 17) d_Hole_spreadOf_5 (by decide) kt kf
theorem b_Hole_spreadOf_8 {d : Nat} {x1 : Int32} {h : am_H} {Q : am_Q} (q0 : vp_in x1 6) (q : Q (some (.int (h.1 4 x1.toNatClampNeg))) h) : am_W (X_Hole_spreadOf d) 8 [some (.ref 1), some (.int x1)] [] h Q :=
  am_aload_n d_Hole_spreadOf_8 rfl (i := 0) rfl <|
    am_getR (ci := 1) (i := 2) rfl rfl rfl (Nat.le_of_ble_eq_true rfl) w_124 d_Hole_spreadOf_9 <|
    am_iload_n d_Hole_spreadOf_12 rfl (i := 1) rfl <|
    am_iald rfl q0 d_Hole_spreadOf_13 <|
    am_goto (tgt := 18) d_Hole_spreadOf_14 (by decide) <|
    am_iret rfl d_Hole_spreadOf_18 q
theorem b_Hole_spreadOf_17 {d : Nat} {x1 : Int32} {h : am_H} {Q : am_Q} (q : Q (some (.int 0)) h) : am_W (X_Hole_spreadOf d) 17 [some (.ref 1), some (.int x1)] [] h Q :=
  am_iconst (v := 0) d_Hole_spreadOf_17 (by decide) <|
    am_iret rfl d_Hole_spreadOf_18 q
theorem t_Hole_spreadOf_17 {d : Nat} {x1 : Int32} {h : am_H} {Q : am_Q} {res : Int32} (e : f_Hole_spreadOf_17 h = some res) (q : Q (some (.int res)) h) : am_W (X_Hole_spreadOf (d + 1)) 17 [some (.ref 1), some (.int x1)] [] h Q :=
  b_Hole_spreadOf_17 (d := (d + 1)) (q := (am_rIp (v := 0) e q))
theorem t_Hole_spreadOf_8 {d : Nat} {x1 : Int32} {h : am_H} {Q : am_Q} {res : Int32} (e : f_Hole_spreadOf_8 h x1 = some res) (q : Q (some (.int res)) h) : am_W (X_Hole_spreadOf (d + 1)) 8 [some (.ref 1), some (.int x1)] [] h Q :=
  b_Hole_spreadOf_8 (d := (d + 1)) (q0 := (am_okv (am_gd e))) (q := (am_rIp (v := (h.1 4 x1.toNatClampNeg)) (am_ga e) q))
theorem t_Hole_spreadOf_5 {d : Nat} {x1 : Int32} {y0 : Bool} {h : am_H} {Q : am_Q} {res : Int32} (e : f_Hole_spreadOf_5 h x1 y0 = some res) (q : Q (some (.int res)) h) : am_W (X_Hole_spreadOf (d + 1)) 5 [some (.ref 1), some (.int x1)] [.int (am_b y0)] h Q :=
  b_Hole_spreadOf_5 (d := (d + 1)) (kt := fun c => (t_Hole_spreadOf_17 (am_iff e (am_bz c)) q)) (kf := fun c => (t_Hole_spreadOf_8 (am_ift e (am_bn c)) q))
theorem t_Hole_spreadOf_0 {d : Nat} {x1 : Int32} {h : am_H} {Q : am_Q} {res : Int32} (e : f_Hole_spreadOf h x1 = some res) (q : Q (some (.int res)) h) : am_W (X_Hole_spreadOf (d + 1)) 0 [some (.ref 1), some (.int x1)] [] h Q :=
  b_Hole_spreadOf_0 (d := d) (k := c_Hole_hasClub (d := d) rfl (t_Hole_spreadOf_5 e q))
theorem c_Hole_spreadOf {d : Nat} {x1 : Int32} {h : am_H} {Q : am_Q} {res : Int32} (e : f_Hole_spreadOf h x1 = some res) (q : Q (some (.int res)) h) : m_Hole_spreadOf (d + 1) [.ref 1, .int x1] h Q :=
  e_Hole_spreadOf (t_Hole_spreadOf_0 e q)
theorem d_Hole_waysOf_0 : decode prog_5_method_18_code 0 = .ok (.iconst 2, 1) := by decide +kernel
theorem d_Hole_waysOf_1 : decode prog_5_method_18_code 1 = .ok (.aload_n 0, 1) := by decide +kernel
theorem d_Hole_waysOf_2 : decode prog_5_method_18_code 2 = .ok (.iload_n 1, 1) := by decide +kernel
theorem d_Hole_waysOf_3 : decode prog_5_method_18_code 3 = .ok (.invokevirtual 97, 3) := by decide +kernel
theorem d_Hole_waysOf_6 : decode prog_5_method_18_code 6 = .ok (.imul, 1) := by decide +kernel
theorem d_Hole_waysOf_7 : decode prog_5_method_18_code 7 = .ok (.iconst 1, 1) := by decide +kernel
theorem d_Hole_waysOf_8 : decode prog_5_method_18_code 8 = .ok (.iadd, 1) := by decide +kernel
theorem d_Hole_waysOf_9 : decode prog_5_method_18_code 9 = .ok (.ireturn, 1) := by decide +kernel
theorem b_Hole_waysOf_0 {d : Nat} {x1 : Int32} {h : am_H} {Q : am_Q} (k : m_Hole_spreadOf d [.ref 1, .int x1] h (fun r hh => am_W (X_Hole_waysOf (d + 1)) 6 [some (.ref 1), some (.int x1)] (r.toList ++ [.int 2]) hh Q)) : am_W (X_Hole_waysOf (d + 1)) 0 [some (.ref 1), some (.int x1)] [] h Q :=
  am_iconst (v := 2) d_Hole_waysOf_0 (by decide) <|
    am_aload_n d_Hole_waysOf_1 rfl (i := 0) rfl <|
    am_iload_n d_Hole_waysOf_2 rfl (i := 1) rfl <|
    am_callV (vs := [.int x1]) (st := [.int 2]) (k := 1) (ci := 1) rfl d_Hole_waysOf_3 rfl rfl w_711 w_689 w_690 w_84 w_691 p_Hole_spreadOf (Nat.le_of_ble_eq_true rfl) (Nat.le_of_ble_eq_true rfl) rfl k
theorem b_Hole_waysOf_6 {d : Nat} {x1 : Int32} {y1 : Int32} {y0 : Int32} {h : am_H} {Q : am_Q} (q : Q (some (.int ((y0 * y1) + 1))) h) : am_W (X_Hole_waysOf d) 6 [some (.ref 1), some (.int x1)] [.int y1, .int y0] h Q :=
  am_imul d_Hole_waysOf_6 <|
    am_iconst (v := 1) d_Hole_waysOf_7 (by decide) <|
    am_iadd d_Hole_waysOf_8 <|
    am_iret rfl d_Hole_waysOf_9 q
theorem t_Hole_waysOf_6 {d : Nat} {x1 : Int32} {y1 : Int32} {y0 : Int32} {h : am_H} {Q : am_Q} {res : Int32} (e : f_Hole_waysOf_6 h y1 y0 = some res) (q : Q (some (.int res)) h) : am_W (X_Hole_waysOf (d + 2)) 6 [some (.ref 1), some (.int x1)] [.int y1, .int y0] h Q :=
  b_Hole_waysOf_6 (d := (d + 2)) (q := (am_rIp (v := ((y0 * y1) + 1)) e q))
theorem t_Hole_waysOf_0 {d : Nat} {x1 : Int32} {h : am_H} {Q : am_Q} {res : Int32} (e : f_Hole_waysOf h x1 = some res) (q : Q (some (.int res)) h) : am_W (X_Hole_waysOf (d + 2)) 0 [some (.ref 1), some (.int x1)] [] h Q :=
  (am_bd e).elim fun p hp => b_Hole_waysOf_0 (d := (d + 1)) (k := c_Hole_spreadOf (d := d) hp.1 (t_Hole_waysOf_6 hp.2 q))
theorem c_Hole_waysOf {d : Nat} {x1 : Int32} {h : am_H} {Q : am_Q} {res : Int32} (e : f_Hole_waysOf h x1 = some res) (q : Q (some (.int res)) h) : m_Hole_waysOf (d + 2) [.ref 1, .int x1] h Q :=
  e_Hole_waysOf (t_Hole_waysOf_0 e q)
theorem d_Hole_aim_0 : decode prog_5_method_31_code 0 = .ok (.iload_n 1, 1) := by decide +kernel
theorem d_Hole_aim_1 : decode prog_5_method_31_code 1 = .ok (.ifCond .lt 18, 3) := by decide +kernel
theorem d_Hole_aim_4 : decode prog_5_method_31_code 4 = .ok (.iload_n 1, 1) := by decide +kernel
theorem d_Hole_aim_5 : decode prog_5_method_31_code 5 = .ok (.bipush 31, 2) := by decide +kernel
theorem d_Hole_aim_7 : decode prog_5_method_31_code 7 = .ok (.if_icmp .ge 12, 3) := by decide +kernel
theorem d_Hole_aim_10 : decode prog_5_method_31_code 10 = .ok (.aload_n 0, 1) := by decide +kernel
theorem d_Hole_aim_11 : decode prog_5_method_31_code 11 = .ok (.getfield 11, 3) := by decide +kernel
theorem d_Hole_aim_14 : decode prog_5_method_31_code 14 = .ok (.iload_n 1, 1) := by decide +kernel
theorem d_Hole_aim_15 : decode prog_5_method_31_code 15 = .ok (.iaload, 1) := by decide +kernel
theorem d_Hole_aim_16 : decode prog_5_method_31_code 16 = .ok (.goto 4, 3) := by decide +kernel
theorem d_Hole_aim_19 : decode prog_5_method_31_code 19 = .ok (.iconst 0, 1) := by decide +kernel
theorem d_Hole_aim_20 : decode prog_5_method_31_code 20 = .ok (.istore_n 3, 1) := by decide +kernel
theorem d_Hole_aim_21 : decode prog_5_method_31_code 21 = .ok (.iload_n 2, 1) := by decide +kernel
theorem d_Hole_aim_22 : decode prog_5_method_31_code 22 = .ok (.istore 4, 2) := by decide +kernel
theorem d_Hole_aim_24 : decode prog_5_method_31_code 24 = .ok (.iload_n 2, 1) := by decide +kernel
theorem d_Hole_aim_25 : decode prog_5_method_31_code 25 = .ok (.iconst 5, 1) := by decide +kernel
theorem d_Hole_aim_26 : decode prog_5_method_31_code 26 = .ok (.if_icmp .lt 28, 3) := by decide +kernel
theorem d_Hole_aim_29 : decode prog_5_method_31_code 29 = .ok (.iload 4, 2) := by decide +kernel
theorem d_Hole_aim_31 : decode prog_5_method_31_code 31 = .ok (.iload_n 1, 1) := by decide +kernel
theorem d_Hole_aim_32 : decode prog_5_method_31_code 32 = .ok (.aload_n 0, 1) := by decide +kernel
theorem d_Hole_aim_33 : decode prog_5_method_31_code 33 = .ok (.getfield 28, 3) := by decide +kernel
theorem d_Hole_aim_36 : decode prog_5_method_31_code 36 = .ok (.if_icmp .le 11, 3) := by decide +kernel
theorem d_Hole_aim_39 : decode prog_5_method_31_code 39 = .ok (.aload_n 0, 1) := by decide +kernel
theorem d_Hole_aim_40 : decode prog_5_method_31_code 40 = .ok (.getfield 31, 3) := by decide +kernel
theorem d_Hole_aim_43 : decode prog_5_method_31_code 43 = .ok (.ineg, 1) := by decide +kernel
theorem d_Hole_aim_44 : decode prog_5_method_31_code 44 = .ok (.goto 7, 3) := by decide +kernel
theorem d_Hole_aim_47 : decode prog_5_method_31_code 47 = .ok (.aload_n 0, 1) := by decide +kernel
theorem d_Hole_aim_48 : decode prog_5_method_31_code 48 = .ok (.getfield 31, 3) := by decide +kernel
theorem d_Hole_aim_51 : decode prog_5_method_31_code 51 = .ok (.iadd, 1) := by decide +kernel
theorem d_Hole_aim_52 : decode prog_5_method_31_code 52 = .ok (.istore 4, 2) := by decide +kernel
theorem d_Hole_aim_54 : decode prog_5_method_31_code 54 = .ok (.iload_n 3, 1) := by decide +kernel
theorem d_Hole_aim_55 : decode prog_5_method_31_code 55 = .ok (.iconst 1, 1) := by decide +kernel
theorem d_Hole_aim_56 : decode prog_5_method_31_code 56 = .ok (.if_icmp .ne 9, 3) := by decide +kernel
theorem d_Hole_aim_59 : decode prog_5_method_31_code 59 = .ok (.iinc 4 (-1), 3) := by decide +kernel
theorem d_Hole_aim_62 : decode prog_5_method_31_code 62 = .ok (.goto 14, 3) := by decide +kernel
theorem d_Hole_aim_65 : decode prog_5_method_31_code 65 = .ok (.iload_n 3, 1) := by decide +kernel
theorem d_Hole_aim_66 : decode prog_5_method_31_code 66 = .ok (.iconst 2, 1) := by decide +kernel
theorem d_Hole_aim_67 : decode prog_5_method_31_code 67 = .ok (.if_icmp .ne 9, 3) := by decide +kernel
theorem d_Hole_aim_70 : decode prog_5_method_31_code 70 = .ok (.iload 4, 2) := by decide +kernel
theorem d_Hole_aim_72 : decode prog_5_method_31_code 72 = .ok (.iconst 2, 1) := by decide +kernel
theorem d_Hole_aim_73 : decode prog_5_method_31_code 73 = .ok (.idiv, 1) := by decide +kernel
theorem d_Hole_aim_74 : decode prog_5_method_31_code 74 = .ok (.istore 4, 2) := by decide +kernel
theorem d_Hole_aim_76 : decode prog_5_method_31_code 76 = .ok (.iload 4, 2) := by decide +kernel
theorem d_Hole_aim_78 : decode prog_5_method_31_code 78 = .ok (.ifCond .ge 6, 3) := by decide +kernel
theorem d_Hole_aim_81 : decode prog_5_method_31_code 81 = .ok (.iconst 0, 1) := by decide +kernel
theorem d_Hole_aim_82 : decode prog_5_method_31_code 82 = .ok (.istore 4, 2) := by decide +kernel
theorem d_Hole_aim_84 : decode prog_5_method_31_code 84 = .ok (.iload_n 1, 1) := by decide +kernel
theorem d_Hole_aim_85 : decode prog_5_method_31_code 85 = .ok (.aload_n 0, 1) := by decide +kernel
theorem d_Hole_aim_86 : decode prog_5_method_31_code 86 = .ok (.getfield 28, 3) := by decide +kernel
theorem d_Hole_aim_89 : decode prog_5_method_31_code 89 = .ok (.if_icmp .le 10, 3) := by decide +kernel
theorem d_Hole_aim_92 : decode prog_5_method_31_code 92 = .ok (.iload_n 1, 1) := by decide +kernel
theorem d_Hole_aim_93 : decode prog_5_method_31_code 93 = .ok (.iload 4, 2) := by decide +kernel
theorem d_Hole_aim_95 : decode prog_5_method_31_code 95 = .ok (.isub, 1) := by decide +kernel
theorem d_Hole_aim_96 : decode prog_5_method_31_code 96 = .ok (.goto 7, 3) := by decide +kernel
theorem d_Hole_aim_99 : decode prog_5_method_31_code 99 = .ok (.iload_n 1, 1) := by decide +kernel
theorem d_Hole_aim_100 : decode prog_5_method_31_code 100 = .ok (.iload 4, 2) := by decide +kernel
theorem d_Hole_aim_102 : decode prog_5_method_31_code 102 = .ok (.iadd, 1) := by decide +kernel
theorem d_Hole_aim_103 : decode prog_5_method_31_code 103 = .ok (.ireturn, 1) := by decide +kernel
theorem b_Hole_aim_0 {d : Nat} {x1 : Int32} {x2 : Int32} {h : am_H} {Q : am_Q} (kt : x1 < 0 → am_W (X_Hole_aim d) 19 [some (.ref 1), some (.int x1), some (.int x2), none, none] [] h Q) (kf : ¬ x1 < 0 → am_W (X_Hole_aim d) 4 [some (.ref 1), some (.int x1), some (.int x2), none, none] [] h Q) : am_W (X_Hole_aim d) 0 [some (.ref 1), some (.int x1), some (.int x2), none, none] [] h Q :=
  am_iload_n d_Hole_aim_0 rfl (i := 1) rfl <|
    am_if_lt (tgt := 19) d_Hole_aim_1 (by decide) kt kf
theorem b_Hole_aim_4 {d : Nat} {x1 : Int32} {x2 : Int32} {h : am_H} {Q : am_Q} (kt : 31 ≤ x1 → am_W (X_Hole_aim d) 19 [some (.ref 1), some (.int x1), some (.int x2), none, none] [] h Q) (kf : ¬ 31 ≤ x1 → am_W (X_Hole_aim d) 10 [some (.ref 1), some (.int x1), some (.int x2), none, none] [] h Q) : am_W (X_Hole_aim d) 4 [some (.ref 1), some (.int x1), some (.int x2), none, none] [] h Q :=
  am_iload_n d_Hole_aim_4 rfl (i := 1) rfl <|
    am_bipush (v := 31) d_Hole_aim_5 (by decide) <|
    am_icmp_ge (tgt := 19) d_Hole_aim_7 (by decide) kt kf
theorem b_Hole_aim_10 {d : Nat} {x1 : Int32} {x2 : Int32} {h : am_H} {Q : am_Q} (q0 : vp_in x1 31) (k : am_W (X_Hole_aim d) 20 [some (.ref 1), some (.int x1), some (.int x2), none, none] [.int (h.1 2 x1.toNatClampNeg)] h Q) : am_W (X_Hole_aim d) 10 [some (.ref 1), some (.int x1), some (.int x2), none, none] [] h Q :=
  am_aload_n d_Hole_aim_10 rfl (i := 0) rfl <|
    am_getR (ci := 1) (i := 0) rfl rfl rfl (Nat.le_of_ble_eq_true rfl) w_122 d_Hole_aim_11 <|
    am_iload_n d_Hole_aim_14 rfl (i := 1) rfl <|
    am_iald rfl q0 d_Hole_aim_15 <|
    am_goto (tgt := 20) d_Hole_aim_16 (by decide) k
theorem b_Hole_aim_19 {d : Nat} {x1 : Int32} {x2 : Int32} {h : am_H} {Q : am_Q} (k : am_W (X_Hole_aim d) 20 [some (.ref 1), some (.int x1), some (.int x2), none, none] [.int 0] h Q) : am_W (X_Hole_aim d) 19 [some (.ref 1), some (.int x1), some (.int x2), none, none] [] h Q :=
  am_iconst (v := 0) d_Hole_aim_19 (by decide) <|
    k
theorem b_Hole_aim_20 {d : Nat} {x1 : Int32} {x2 : Int32} {y0 : Int32} {h : am_H} {Q : am_Q} (kt : x2 < 5 → am_W (X_Hole_aim d) 54 [some (.ref 1), some (.int x1), some (.int x2), some (.int y0), some (.int x2)] [] h Q) (kf : ¬ x2 < 5 → am_W (X_Hole_aim d) 29 [some (.ref 1), some (.int x1), some (.int x2), some (.int y0), some (.int x2)] [] h Q) : am_W (X_Hole_aim d) 20 [some (.ref 1), some (.int x1), some (.int x2), none, none] [.int y0] h Q :=
  am_istore_n (ls' := [some (.ref 1), some (.int x1), some (.int x2), some (.int y0), none]) d_Hole_aim_20 rfl (Nat.le_of_ble_eq_true rfl) rfl <|
    am_iload_n d_Hole_aim_21 rfl (i := 2) rfl <|
    am_istore (ls' := [some (.ref 1), some (.int x1), some (.int x2), some (.int y0), some (.int x2)]) d_Hole_aim_22 (Nat.le_of_ble_eq_true rfl) rfl <|
    am_iload_n d_Hole_aim_24 rfl (i := 2) rfl <|
    am_iconst (v := 5) d_Hole_aim_25 (by decide) <|
    am_icmp_lt (tgt := 54) d_Hole_aim_26 (by decide) kt kf
theorem b_Hole_aim_29 {d : Nat} {x1 : Int32} {x2 : Int32} {x3 : Int32} {x4 : Int32} {h : am_H} {Q : am_Q} (kt : x1 ≤ (h.1 1 5) → am_W (X_Hole_aim d) 47 [some (.ref 1), some (.int x1), some (.int x2), some (.int x3), some (.int x4)] [.int x4] h Q) (kf : ¬ x1 ≤ (h.1 1 5) → am_W (X_Hole_aim d) 39 [some (.ref 1), some (.int x1), some (.int x2), some (.int x3), some (.int x4)] [.int x4] h Q) : am_W (X_Hole_aim d) 29 [some (.ref 1), some (.int x1), some (.int x2), some (.int x3), some (.int x4)] [] h Q :=
  am_iload d_Hole_aim_29 rfl <|
    am_iload_n d_Hole_aim_31 rfl (i := 1) rfl <|
    am_aload_n d_Hole_aim_32 rfl (i := 0) rfl <|
    am_getI (ci := 1) (i := 5) rfl rfl rfl (Nat.le_of_ble_eq_true rfl) w_127 d_Hole_aim_33 <|
    am_icmp_le (tgt := 47) d_Hole_aim_36 (by decide) kt kf
theorem b_Hole_aim_39 {d : Nat} {x1 : Int32} {x2 : Int32} {x3 : Int32} {x4 : Int32} {y0 : Int32} {h : am_H} {Q : am_Q} (k : am_W (X_Hole_aim d) 51 [some (.ref 1), some (.int x1), some (.int x2), some (.int x3), some (.int x4)] [.int (-(h.1 1 6)), .int y0] h Q) : am_W (X_Hole_aim d) 39 [some (.ref 1), some (.int x1), some (.int x2), some (.int x3), some (.int x4)] [.int y0] h Q :=
  am_aload_n d_Hole_aim_39 rfl (i := 0) rfl <|
    am_getI (ci := 1) (i := 6) rfl rfl rfl (Nat.le_of_ble_eq_true rfl) w_128 d_Hole_aim_40 <|
    am_ineg d_Hole_aim_43 <|
    am_goto (tgt := 51) d_Hole_aim_44 (by decide) k
theorem b_Hole_aim_47 {d : Nat} {x1 : Int32} {x2 : Int32} {x3 : Int32} {x4 : Int32} {y0 : Int32} {h : am_H} {Q : am_Q} (k : am_W (X_Hole_aim d) 51 [some (.ref 1), some (.int x1), some (.int x2), some (.int x3), some (.int x4)] [.int (h.1 1 6), .int y0] h Q) : am_W (X_Hole_aim d) 47 [some (.ref 1), some (.int x1), some (.int x2), some (.int x3), some (.int x4)] [.int y0] h Q :=
  am_aload_n d_Hole_aim_47 rfl (i := 0) rfl <|
    am_getI (ci := 1) (i := 6) rfl rfl rfl (Nat.le_of_ble_eq_true rfl) w_128 d_Hole_aim_48 <|
    k
theorem b_Hole_aim_51 {d : Nat} {x1 : Int32} {x2 : Int32} {x3 : Int32} {x4 : Int32} {y1 : Int32} {y0 : Int32} {h : am_H} {Q : am_Q} (k : am_W (X_Hole_aim d) 54 [some (.ref 1), some (.int x1), some (.int x2), some (.int x3), some (.int (y0 + y1))] [] h Q) : am_W (X_Hole_aim d) 51 [some (.ref 1), some (.int x1), some (.int x2), some (.int x3), some (.int x4)] [.int y1, .int y0] h Q :=
  am_iadd d_Hole_aim_51 <|
    am_istore (ls' := [some (.ref 1), some (.int x1), some (.int x2), some (.int x3), some (.int (y0 + y1))]) d_Hole_aim_52 (Nat.le_of_ble_eq_true rfl) rfl <|
    k
theorem b_Hole_aim_54 {d : Nat} {x1 : Int32} {x2 : Int32} {x3 : Int32} {x4 : Int32} {h : am_H} {Q : am_Q} (kt : ¬ x3 = 1 → am_W (X_Hole_aim d) 65 [some (.ref 1), some (.int x1), some (.int x2), some (.int x3), some (.int x4)] [] h Q) (kf : x3 = 1 → am_W (X_Hole_aim d) 59 [some (.ref 1), some (.int x1), some (.int x2), some (.int x3), some (.int x4)] [] h Q) : am_W (X_Hole_aim d) 54 [some (.ref 1), some (.int x1), some (.int x2), some (.int x3), some (.int x4)] [] h Q :=
  am_iload_n d_Hole_aim_54 rfl (i := 3) rfl <|
    am_iconst (v := 1) d_Hole_aim_55 (by decide) <|
    am_icmp_ne (tgt := 65) d_Hole_aim_56 (by decide) kt kf
theorem b_Hole_aim_59 {d : Nat} {x1 : Int32} {x2 : Int32} {x3 : Int32} {x4 : Int32} {h : am_H} {Q : am_Q} (k : am_W (X_Hole_aim d) 76 [some (.ref 1), some (.int x1), some (.int x2), some (.int x3), some (.int (x4 + (-1)))] [] h Q) : am_W (X_Hole_aim d) 59 [some (.ref 1), some (.int x1), some (.int x2), some (.int x3), some (.int x4)] [] h Q :=
  am_iinc (v := (x4 + (-1))) (ls' := [some (.ref 1), some (.int x1), some (.int x2), some (.int x3), some (.int (x4 + (-1)))]) d_Hole_aim_59 rfl rfl (Nat.le_of_ble_eq_true rfl) rfl <|
    am_goto (tgt := 76) d_Hole_aim_62 (by decide) k
theorem b_Hole_aim_65 {d : Nat} {x1 : Int32} {x2 : Int32} {x3 : Int32} {x4 : Int32} {h : am_H} {Q : am_Q} (kt : ¬ x3 = 2 → am_W (X_Hole_aim d) 76 [some (.ref 1), some (.int x1), some (.int x2), some (.int x3), some (.int x4)] [] h Q) (kf : x3 = 2 → am_W (X_Hole_aim d) 70 [some (.ref 1), some (.int x1), some (.int x2), some (.int x3), some (.int x4)] [] h Q) : am_W (X_Hole_aim d) 65 [some (.ref 1), some (.int x1), some (.int x2), some (.int x3), some (.int x4)] [] h Q :=
  am_iload_n d_Hole_aim_65 rfl (i := 3) rfl <|
    am_iconst (v := 2) d_Hole_aim_66 (by decide) <|
    am_icmp_ne (tgt := 76) d_Hole_aim_67 (by decide) kt kf
theorem b_Hole_aim_70 {d : Nat} {x1 : Int32} {x2 : Int32} {x3 : Int32} {x4 : Int32} {h : am_H} {Q : am_Q} (k : am_W (X_Hole_aim d) 76 [some (.ref 1), some (.int x1), some (.int x2), some (.int x3), some (.int (x4 / 2))] [] h Q) : am_W (X_Hole_aim d) 70 [some (.ref 1), some (.int x1), some (.int x2), some (.int x3), some (.int x4)] [] h Q :=
  am_iload d_Hole_aim_70 rfl <|
    am_iconst (v := 2) d_Hole_aim_72 (by decide) <|
    am_idiv d_Hole_aim_73 (by decide) <|
    am_istore (ls' := [some (.ref 1), some (.int x1), some (.int x2), some (.int x3), some (.int (x4 / 2))]) d_Hole_aim_74 (Nat.le_of_ble_eq_true rfl) rfl <|
    k
theorem b_Hole_aim_76 {d : Nat} {x1 : Int32} {x2 : Int32} {x3 : Int32} {x4 : Int32} {h : am_H} {Q : am_Q} (kt : 0 ≤ x4 → am_W (X_Hole_aim d) 84 [some (.ref 1), some (.int x1), some (.int x2), some (.int x3), some (.int x4)] [] h Q) (kf : ¬ 0 ≤ x4 → am_W (X_Hole_aim d) 81 [some (.ref 1), some (.int x1), some (.int x2), some (.int x3), some (.int x4)] [] h Q) : am_W (X_Hole_aim d) 76 [some (.ref 1), some (.int x1), some (.int x2), some (.int x3), some (.int x4)] [] h Q :=
  am_iload d_Hole_aim_76 rfl <|
    am_if_ge (tgt := 84) d_Hole_aim_78 (by decide) kt kf
theorem b_Hole_aim_81 {d : Nat} {x1 : Int32} {x2 : Int32} {x3 : Int32} {x4 : Int32} {h : am_H} {Q : am_Q} (k : am_W (X_Hole_aim d) 84 [some (.ref 1), some (.int x1), some (.int x2), some (.int x3), some (.int 0)] [] h Q) : am_W (X_Hole_aim d) 81 [some (.ref 1), some (.int x1), some (.int x2), some (.int x3), some (.int x4)] [] h Q :=
  am_iconst (v := 0) d_Hole_aim_81 (by decide) <|
    am_istore (ls' := [some (.ref 1), some (.int x1), some (.int x2), some (.int x3), some (.int 0)]) d_Hole_aim_82 (Nat.le_of_ble_eq_true rfl) rfl <|
    k
theorem b_Hole_aim_84 {d : Nat} {x1 : Int32} {x2 : Int32} {x3 : Int32} {x4 : Int32} {h : am_H} {Q : am_Q} (kt : x1 ≤ (h.1 1 5) → am_W (X_Hole_aim d) 99 [some (.ref 1), some (.int x1), some (.int x2), some (.int x3), some (.int x4)] [] h Q) (kf : ¬ x1 ≤ (h.1 1 5) → am_W (X_Hole_aim d) 92 [some (.ref 1), some (.int x1), some (.int x2), some (.int x3), some (.int x4)] [] h Q) : am_W (X_Hole_aim d) 84 [some (.ref 1), some (.int x1), some (.int x2), some (.int x3), some (.int x4)] [] h Q :=
  am_iload_n d_Hole_aim_84 rfl (i := 1) rfl <|
    am_aload_n d_Hole_aim_85 rfl (i := 0) rfl <|
    am_getI (ci := 1) (i := 5) rfl rfl rfl (Nat.le_of_ble_eq_true rfl) w_127 d_Hole_aim_86 <|
    am_icmp_le (tgt := 99) d_Hole_aim_89 (by decide) kt kf
theorem b_Hole_aim_92 {d : Nat} {x1 : Int32} {x2 : Int32} {x3 : Int32} {x4 : Int32} {h : am_H} {Q : am_Q} (q : Q (some (.int (x1 - x4))) h) : am_W (X_Hole_aim d) 92 [some (.ref 1), some (.int x1), some (.int x2), some (.int x3), some (.int x4)] [] h Q :=
  am_iload_n d_Hole_aim_92 rfl (i := 1) rfl <|
    am_iload d_Hole_aim_93 rfl <|
    am_isub d_Hole_aim_95 <|
    am_goto (tgt := 103) d_Hole_aim_96 (by decide) <|
    am_iret rfl d_Hole_aim_103 q
theorem b_Hole_aim_99 {d : Nat} {x1 : Int32} {x2 : Int32} {x3 : Int32} {x4 : Int32} {h : am_H} {Q : am_Q} (q : Q (some (.int (x1 + x4))) h) : am_W (X_Hole_aim d) 99 [some (.ref 1), some (.int x1), some (.int x2), some (.int x3), some (.int x4)] [] h Q :=
  am_iload_n d_Hole_aim_99 rfl (i := 1) rfl <|
    am_iload d_Hole_aim_100 rfl <|
    am_iadd d_Hole_aim_102 <|
    am_iret rfl d_Hole_aim_103 q
theorem t_Hole_aim_99 {d : Nat} {x1 : Int32} {x2 : Int32} {x3 : Int32} {x4 : Int32} {h : am_H} {Q : am_Q} {res : Int32} (e : f_Hole_aim_99 h x1 x4 = some res) (q : Q (some (.int res)) h) : am_W (X_Hole_aim d) 99 [some (.ref 1), some (.int x1), some (.int x2), some (.int x3), some (.int x4)] [] h Q :=
  b_Hole_aim_99 (d := d) (q := (am_rIp (v := (x1 + x4)) e q))
theorem t_Hole_aim_92 {d : Nat} {x1 : Int32} {x2 : Int32} {x3 : Int32} {x4 : Int32} {h : am_H} {Q : am_Q} {res : Int32} (e : f_Hole_aim_92 h x1 x4 = some res) (q : Q (some (.int res)) h) : am_W (X_Hole_aim d) 92 [some (.ref 1), some (.int x1), some (.int x2), some (.int x3), some (.int x4)] [] h Q :=
  b_Hole_aim_92 (d := d) (q := (am_rIp (v := (x1 - x4)) e q))
theorem t_Hole_aim_84 {d : Nat} {x1 : Int32} {x2 : Int32} {x3 : Int32} {x4 : Int32} {h : am_H} {Q : am_Q} {res : Int32} (e : f_Hole_aim_84 h x1 x4 = some res) (q : Q (some (.int res)) h) : am_W (X_Hole_aim d) 84 [some (.ref 1), some (.int x1), some (.int x2), some (.int x3), some (.int x4)] [] h Q :=
  b_Hole_aim_84 (d := d) (kt := fun c => (t_Hole_aim_99 (am_ift e c) q)) (kf := fun c => (t_Hole_aim_92 (am_ife e c) q))
theorem t_Hole_aim_81 {d : Nat} {x1 : Int32} {x2 : Int32} {x3 : Int32} {x4 : Int32} {h : am_H} {Q : am_Q} {res : Int32} (e : f_Hole_aim_81 h x1 = some res) (q : Q (some (.int res)) h) : am_W (X_Hole_aim d) 81 [some (.ref 1), some (.int x1), some (.int x2), some (.int x3), some (.int x4)] [] h Q :=
  b_Hole_aim_81 (d := d) (k := (t_Hole_aim_84 e q))
theorem t_Hole_aim_76 {d : Nat} {x1 : Int32} {x2 : Int32} {x3 : Int32} {x4 : Int32} {h : am_H} {Q : am_Q} {res : Int32} (e : f_Hole_aim_76 h x1 x4 = some res) (q : Q (some (.int res)) h) : am_W (X_Hole_aim d) 76 [some (.ref 1), some (.int x1), some (.int x2), some (.int x3), some (.int x4)] [] h Q :=
  b_Hole_aim_76 (d := d) (kt := fun c => (t_Hole_aim_84 (am_ift e c) q)) (kf := fun c => (t_Hole_aim_81 (am_ife e c) q))
theorem t_Hole_aim_70 {d : Nat} {x1 : Int32} {x2 : Int32} {x3 : Int32} {x4 : Int32} {h : am_H} {Q : am_Q} {res : Int32} (e : f_Hole_aim_70 h x1 x4 = some res) (q : Q (some (.int res)) h) : am_W (X_Hole_aim d) 70 [some (.ref 1), some (.int x1), some (.int x2), some (.int x3), some (.int x4)] [] h Q :=
  b_Hole_aim_70 (d := d) (k := (t_Hole_aim_76 e q))
theorem t_Hole_aim_65 {d : Nat} {x1 : Int32} {x2 : Int32} {x3 : Int32} {x4 : Int32} {h : am_H} {Q : am_Q} {res : Int32} (e : f_Hole_aim_65 h x1 x3 x4 = some res) (q : Q (some (.int res)) h) : am_W (X_Hole_aim d) 65 [some (.ref 1), some (.int x1), some (.int x2), some (.int x3), some (.int x4)] [] h Q :=
  b_Hole_aim_65 (d := d) (kt := fun c => (t_Hole_aim_76 (am_ife e c) q)) (kf := fun c => (t_Hole_aim_70 (am_ift e c) q))
theorem t_Hole_aim_59 {d : Nat} {x1 : Int32} {x2 : Int32} {x3 : Int32} {x4 : Int32} {h : am_H} {Q : am_Q} {res : Int32} (e : f_Hole_aim_59 h x1 x4 = some res) (q : Q (some (.int res)) h) : am_W (X_Hole_aim d) 59 [some (.ref 1), some (.int x1), some (.int x2), some (.int x3), some (.int x4)] [] h Q :=
  b_Hole_aim_59 (d := d) (k := (t_Hole_aim_76 e q))
theorem t_Hole_aim_54 {d : Nat} {x1 : Int32} {x2 : Int32} {x3 : Int32} {x4 : Int32} {h : am_H} {Q : am_Q} {res : Int32} (e : f_Hole_aim_54 h x1 x3 x4 = some res) (q : Q (some (.int res)) h) : am_W (X_Hole_aim d) 54 [some (.ref 1), some (.int x1), some (.int x2), some (.int x3), some (.int x4)] [] h Q :=
  b_Hole_aim_54 (d := d) (kt := fun c => (t_Hole_aim_65 (am_ife e c) q)) (kf := fun c => (t_Hole_aim_59 (am_ift e c) q))
theorem t_Hole_aim_51 {d : Nat} {x1 : Int32} {x2 : Int32} {x3 : Int32} {x4 : Int32} {y1 : Int32} {y0 : Int32} {h : am_H} {Q : am_Q} {res : Int32} (e : f_Hole_aim_51 h x1 x3 y1 y0 = some res) (q : Q (some (.int res)) h) : am_W (X_Hole_aim d) 51 [some (.ref 1), some (.int x1), some (.int x2), some (.int x3), some (.int x4)] [.int y1, .int y0] h Q :=
  b_Hole_aim_51 (d := d) (k := (t_Hole_aim_54 e q))
theorem t_Hole_aim_47 {d : Nat} {x1 : Int32} {x2 : Int32} {x3 : Int32} {x4 : Int32} {y0 : Int32} {h : am_H} {Q : am_Q} {res : Int32} (e : f_Hole_aim_47 h x1 x3 y0 = some res) (q : Q (some (.int res)) h) : am_W (X_Hole_aim d) 47 [some (.ref 1), some (.int x1), some (.int x2), some (.int x3), some (.int x4)] [.int y0] h Q :=
  b_Hole_aim_47 (d := d) (k := (t_Hole_aim_51 e q))
theorem t_Hole_aim_39 {d : Nat} {x1 : Int32} {x2 : Int32} {x3 : Int32} {x4 : Int32} {y0 : Int32} {h : am_H} {Q : am_Q} {res : Int32} (e : f_Hole_aim_39 h x1 x3 y0 = some res) (q : Q (some (.int res)) h) : am_W (X_Hole_aim d) 39 [some (.ref 1), some (.int x1), some (.int x2), some (.int x3), some (.int x4)] [.int y0] h Q :=
  b_Hole_aim_39 (d := d) (k := (t_Hole_aim_51 e q))
theorem t_Hole_aim_29 {d : Nat} {x1 : Int32} {x2 : Int32} {x3 : Int32} {x4 : Int32} {h : am_H} {Q : am_Q} {res : Int32} (e : f_Hole_aim_29 h x1 x3 x4 = some res) (q : Q (some (.int res)) h) : am_W (X_Hole_aim d) 29 [some (.ref 1), some (.int x1), some (.int x2), some (.int x3), some (.int x4)] [] h Q :=
  b_Hole_aim_29 (d := d) (kt := fun c => (t_Hole_aim_47 (am_ift e c) q)) (kf := fun c => (t_Hole_aim_39 (am_ife e c) q))
theorem t_Hole_aim_20 {d : Nat} {x1 : Int32} {x2 : Int32} {y0 : Int32} {h : am_H} {Q : am_Q} {res : Int32} (e : f_Hole_aim_20 h x1 x2 y0 = some res) (q : Q (some (.int res)) h) : am_W (X_Hole_aim d) 20 [some (.ref 1), some (.int x1), some (.int x2), none, none] [.int y0] h Q :=
  b_Hole_aim_20 (d := d) (kt := fun c => (t_Hole_aim_54 (am_ift e c) q)) (kf := fun c => (t_Hole_aim_29 (am_ife e c) q))
theorem t_Hole_aim_19 {d : Nat} {x1 : Int32} {x2 : Int32} {h : am_H} {Q : am_Q} {res : Int32} (e : f_Hole_aim_19 h x1 x2 = some res) (q : Q (some (.int res)) h) : am_W (X_Hole_aim d) 19 [some (.ref 1), some (.int x1), some (.int x2), none, none] [] h Q :=
  b_Hole_aim_19 (d := d) (k := (t_Hole_aim_20 e q))
theorem t_Hole_aim_10 {d : Nat} {x1 : Int32} {x2 : Int32} {h : am_H} {Q : am_Q} {res : Int32} (e : f_Hole_aim_10 h x1 x2 = some res) (q : Q (some (.int res)) h) : am_W (X_Hole_aim d) 10 [some (.ref 1), some (.int x1), some (.int x2), none, none] [] h Q :=
  b_Hole_aim_10 (d := d) (q0 := (am_okv (am_gd e))) (k := (t_Hole_aim_20 (am_ga e) q))
theorem t_Hole_aim_4 {d : Nat} {x1 : Int32} {x2 : Int32} {h : am_H} {Q : am_Q} {res : Int32} (e : f_Hole_aim_4 h x1 x2 = some res) (q : Q (some (.int res)) h) : am_W (X_Hole_aim d) 4 [some (.ref 1), some (.int x1), some (.int x2), none, none] [] h Q :=
  b_Hole_aim_4 (d := d) (kt := fun c => (t_Hole_aim_19 (am_ift e c) q)) (kf := fun c => (t_Hole_aim_10 (am_ife e c) q))
theorem t_Hole_aim_0 {d : Nat} {x1 : Int32} {x2 : Int32} {h : am_H} {Q : am_Q} {res : Int32} (e : f_Hole_aim h x1 x2 = some res) (q : Q (some (.int res)) h) : am_W (X_Hole_aim d) 0 [some (.ref 1), some (.int x1), some (.int x2), none, none] [] h Q :=
  b_Hole_aim_0 (d := d) (kt := fun c => (t_Hole_aim_19 (am_ift e c) q)) (kf := fun c => (t_Hole_aim_4 (am_ife e c) q))
theorem c_Hole_aim {d : Nat} {x1 : Int32} {x2 : Int32} {h : am_H} {Q : am_Q} {res : Int32} (e : f_Hole_aim h x1 x2 = some res) (q : Q (some (.int res)) h) : m_Hole_aim d [.ref 1, .int x1, .int x2] h Q :=
  e_Hole_aim (t_Hole_aim_0 e q)
theorem d_Hole_held_0 : decode prog_5_method_32_code 0 = .ok (.iload_n 0, 1) := by decide +kernel
theorem d_Hole_held_1 : decode prog_5_method_32_code 1 = .ok (.ifCond .ge 7, 3) := by decide +kernel
theorem d_Hole_held_4 : decode prog_5_method_32_code 4 = .ok (.iconst 0, 1) := by decide +kernel
theorem d_Hole_held_5 : decode prog_5_method_32_code 5 = .ok (.goto 15, 3) := by decide +kernel
theorem d_Hole_held_8 : decode prog_5_method_32_code 8 = .ok (.iload_n 0, 1) := by decide +kernel
theorem d_Hole_held_9 : decode prog_5_method_32_code 9 = .ok (.bipush 31, 2) := by decide +kernel
theorem d_Hole_held_11 : decode prog_5_method_32_code 11 = .ok (.if_icmp .lt 8, 3) := by decide +kernel
theorem d_Hole_held_14 : decode prog_5_method_32_code 14 = .ok (.bipush 30, 2) := by decide +kernel
theorem d_Hole_held_16 : decode prog_5_method_32_code 16 = .ok (.goto 4, 3) := by decide +kernel
theorem d_Hole_held_19 : decode prog_5_method_32_code 19 = .ok (.iload_n 0, 1) := by decide +kernel
theorem d_Hole_held_20 : decode prog_5_method_32_code 20 = .ok (.ireturn, 1) := by decide +kernel
theorem b_Hole_held_0 {d : Nat} {x0 : Int32} {h : am_H} {Q : am_Q} (kt : 0 ≤ x0 → am_W (X_Hole_held d) 8 [some (.int x0)] [] h Q) (kf : ¬ 0 ≤ x0 → am_W (X_Hole_held d) 4 [some (.int x0)] [] h Q) : am_W (X_Hole_held d) 0 [some (.int x0)] [] h Q :=
  am_iload_n d_Hole_held_0 rfl (i := 0) rfl <|
    am_if_ge (tgt := 8) d_Hole_held_1 (by decide) kt kf
theorem b_Hole_held_4 {d : Nat} {x0 : Int32} {h : am_H} {Q : am_Q} (q : Q (some (.int 0)) h) : am_W (X_Hole_held d) 4 [some (.int x0)] [] h Q :=
  am_iconst (v := 0) d_Hole_held_4 (by decide) <|
    am_goto (tgt := 20) d_Hole_held_5 (by decide) <|
    am_iret rfl d_Hole_held_20 q
theorem b_Hole_held_8 {d : Nat} {x0 : Int32} {h : am_H} {Q : am_Q} (kt : x0 < 31 → am_W (X_Hole_held d) 19 [some (.int x0)] [] h Q) (kf : ¬ x0 < 31 → am_W (X_Hole_held d) 14 [some (.int x0)] [] h Q) : am_W (X_Hole_held d) 8 [some (.int x0)] [] h Q :=
  am_iload_n d_Hole_held_8 rfl (i := 0) rfl <|
    am_bipush (v := 31) d_Hole_held_9 (by decide) <|
    am_icmp_lt (tgt := 19) d_Hole_held_11 (by decide) kt kf
theorem b_Hole_held_14 {d : Nat} {x0 : Int32} {h : am_H} {Q : am_Q} (q : Q (some (.int 30)) h) : am_W (X_Hole_held d) 14 [some (.int x0)] [] h Q :=
  am_bipush (v := 30) d_Hole_held_14 (by decide) <|
    am_goto (tgt := 20) d_Hole_held_16 (by decide) <|
    am_iret rfl d_Hole_held_20 q
theorem b_Hole_held_19 {d : Nat} {x0 : Int32} {h : am_H} {Q : am_Q} (q : Q (some (.int x0)) h) : am_W (X_Hole_held d) 19 [some (.int x0)] [] h Q :=
  am_iload_n d_Hole_held_19 rfl (i := 0) rfl <|
    am_iret rfl d_Hole_held_20 q
theorem t_Hole_held_19 {d : Nat} {x0 : Int32} {h : am_H} {Q : am_Q} {res : Int32} (e : f_Hole_held_19 x0 = res) (q : Q (some (.int res)) h) : am_W (X_Hole_held d) 19 [some (.int x0)] [] h Q :=
  b_Hole_held_19 (d := d) (q := (am_rIt (v := x0) e q))
theorem t_Hole_held_14 {d : Nat} {x0 : Int32} {h : am_H} {Q : am_Q} {res : Int32} (e : f_Hole_held_14 = res) (q : Q (some (.int res)) h) : am_W (X_Hole_held d) 14 [some (.int x0)] [] h Q :=
  b_Hole_held_14 (d := d) (q := (am_rIt (v := 30) e q))
theorem t_Hole_held_8 {d : Nat} {x0 : Int32} {h : am_H} {Q : am_Q} {res : Int32} (e : f_Hole_held_8 x0 = res) (q : Q (some (.int res)) h) : am_W (X_Hole_held d) 8 [some (.int x0)] [] h Q :=
  b_Hole_held_8 (d := d) (kt := fun c => (t_Hole_held_19 (am_ift e c) q)) (kf := fun c => (t_Hole_held_14 (am_ife e c) q))
theorem t_Hole_held_4 {d : Nat} {x0 : Int32} {h : am_H} {Q : am_Q} {res : Int32} (e : f_Hole_held_4 = res) (q : Q (some (.int res)) h) : am_W (X_Hole_held d) 4 [some (.int x0)] [] h Q :=
  b_Hole_held_4 (d := d) (q := (am_rIt (v := 0) e q))
theorem t_Hole_held_0 {d : Nat} {x0 : Int32} {h : am_H} {Q : am_Q} {res : Int32} (e : f_Hole_held x0 = res) (q : Q (some (.int res)) h) : am_W (X_Hole_held d) 0 [some (.int x0)] [] h Q :=
  b_Hole_held_0 (d := d) (kt := fun c => (t_Hole_held_8 (am_ift e c) q)) (kf := fun c => (t_Hole_held_4 (am_ife e c) q))
theorem c_Hole_held {d : Nat} {x0 : Int32} {h : am_H} {Q : am_Q} {res : Int32} (e : f_Hole_held x0 = res) (q : Q (some (.int res)) h) : m_Hole_held d [.int x0] h Q :=
  e_Hole_held (t_Hole_held_0 e q)
theorem d_Hole_isWater_0 : decode prog_5_method_21_code 0 = .ok (.iload_n 1, 1) := by decide +kernel
theorem d_Hole_isWater_1 : decode prog_5_method_21_code 1 = .ok (.invokestatic 59, 3) := by decide +kernel
theorem d_Hole_isWater_4 : decode prog_5_method_21_code 4 = .ok (.ifCond .eq 25, 3) := by decide +kernel
theorem d_Hole_isWater_7 : decode prog_5_method_21_code 7 = .ok (.iload_n 1, 1) := by decide +kernel
theorem d_Hole_isWater_8 : decode prog_5_method_21_code 8 = .ok (.aload_n 0, 1) := by decide +kernel
theorem d_Hole_isWater_9 : decode prog_5_method_21_code 9 = .ok (.getfield 28, 3) := by decide +kernel
theorem d_Hole_isWater_12 : decode prog_5_method_21_code 12 = .ok (.if_icmp .eq 17, 3) := by decide +kernel
theorem d_Hole_isWater_15 : decode prog_5_method_21_code 15 = .ok (.aload_n 0, 1) := by decide +kernel
theorem d_Hole_isWater_16 : decode prog_5_method_21_code 16 = .ok (.getfield 11, 3) := by decide +kernel
theorem d_Hole_isWater_19 : decode prog_5_method_21_code 19 = .ok (.iload_n 1, 1) := by decide +kernel
theorem d_Hole_isWater_20 : decode prog_5_method_21_code 20 = .ok (.iaload, 1) := by decide +kernel
theorem d_Hole_isWater_21 : decode prog_5_method_21_code 21 = .ok (.iconst 3, 1) := by decide +kernel
theorem d_Hole_isWater_22 : decode prog_5_method_21_code 22 = .ok (.if_icmp .ne 7, 3) := by decide +kernel
theorem d_Hole_isWater_25 : decode prog_5_method_21_code 25 = .ok (.iconst 1, 1) := by decide +kernel
theorem d_Hole_isWater_26 : decode prog_5_method_21_code 26 = .ok (.goto 4, 3) := by decide +kernel
theorem d_Hole_isWater_29 : decode prog_5_method_21_code 29 = .ok (.iconst 0, 1) := by decide +kernel
theorem d_Hole_isWater_30 : decode prog_5_method_21_code 30 = .ok (.ireturn, 1) := by decide +kernel
theorem b_Hole_isWater_0 {d : Nat} {x1 : Int32} {h : am_H} {Q : am_Q} (k : m_Hole_isCell d [.int x1] h (fun r hh => am_W (X_Hole_isWater (d + 1)) 4 [some (.ref 1), some (.int x1)] (r.toList ++ []) hh Q)) : am_W (X_Hole_isWater (d + 1)) 0 [some (.ref 1), some (.int x1)] [] h Q :=
  am_iload_n d_Hole_isWater_0 rfl (i := 1) rfl <|
    am_callS (vs := [.int x1]) (st := []) rfl d_Hole_isWater_1 w_468 w_469 w_84 w_470 p_Hole_isCell (Nat.le_of_ble_eq_true rfl) (Nat.le_of_ble_eq_true rfl) rfl k
theorem b_Hole_isWater_4 {d : Nat} {x1 : Int32} {y0 : Bool} {h : am_H} {Q : am_Q} (kt : (am_b y0) = 0 → am_W (X_Hole_isWater d) 29 [some (.ref 1), some (.int x1)] [] h Q) (kf : ¬ (am_b y0) = 0 → am_W (X_Hole_isWater d) 7 [some (.ref 1), some (.int x1)] [] h Q) : am_W (X_Hole_isWater d) 4 [some (.ref 1), some (.int x1)] [.int (am_b y0)] h Q :=
  am_if_eq (tgt := 29) d_Hole_isWater_4 (by decide) kt kf
theorem b_Hole_isWater_7 {d : Nat} {x1 : Int32} {h : am_H} {Q : am_Q} (kt : x1 = (h.1 1 5) → am_W (X_Hole_isWater d) 29 [some (.ref 1), some (.int x1)] [] h Q) (kf : ¬ x1 = (h.1 1 5) → am_W (X_Hole_isWater d) 15 [some (.ref 1), some (.int x1)] [] h Q) : am_W (X_Hole_isWater d) 7 [some (.ref 1), some (.int x1)] [] h Q :=
  am_iload_n d_Hole_isWater_7 rfl (i := 1) rfl <|
    am_aload_n d_Hole_isWater_8 rfl (i := 0) rfl <|
    am_getI (ci := 1) (i := 5) rfl rfl rfl (Nat.le_of_ble_eq_true rfl) w_127 d_Hole_isWater_9 <|
    am_icmp_eq (tgt := 29) d_Hole_isWater_12 (by decide) kt kf
theorem b_Hole_isWater_15 {d : Nat} {x1 : Int32} {h : am_H} {Q : am_Q} (q0 : vp_in x1 31) (kt : ¬ (h.1 2 x1.toNatClampNeg) = 3 → am_W (X_Hole_isWater d) 29 [some (.ref 1), some (.int x1)] [] h Q) (kf : (h.1 2 x1.toNatClampNeg) = 3 → am_W (X_Hole_isWater d) 25 [some (.ref 1), some (.int x1)] [] h Q) : am_W (X_Hole_isWater d) 15 [some (.ref 1), some (.int x1)] [] h Q :=
  am_aload_n d_Hole_isWater_15 rfl (i := 0) rfl <|
    am_getR (ci := 1) (i := 0) rfl rfl rfl (Nat.le_of_ble_eq_true rfl) w_122 d_Hole_isWater_16 <|
    am_iload_n d_Hole_isWater_19 rfl (i := 1) rfl <|
    am_iald rfl q0 d_Hole_isWater_20 <|
    am_iconst (v := 3) d_Hole_isWater_21 (by decide) <|
    am_icmp_ne (tgt := 29) d_Hole_isWater_22 (by decide) kt kf
theorem b_Hole_isWater_25 {d : Nat} {x1 : Int32} {h : am_H} {Q : am_Q} (q : Q (some (.int 1)) h) : am_W (X_Hole_isWater d) 25 [some (.ref 1), some (.int x1)] [] h Q :=
  am_iconst (v := 1) d_Hole_isWater_25 (by decide) <|
    am_goto (tgt := 30) d_Hole_isWater_26 (by decide) <|
    am_zret (ty := .boolean) rfl (by decide) d_Hole_isWater_30 q
theorem b_Hole_isWater_29 {d : Nat} {x1 : Int32} {h : am_H} {Q : am_Q} (q : Q (some (.int 0)) h) : am_W (X_Hole_isWater d) 29 [some (.ref 1), some (.int x1)] [] h Q :=
  am_iconst (v := 0) d_Hole_isWater_29 (by decide) <|
    am_zret (ty := .boolean) rfl (by decide) d_Hole_isWater_30 q
theorem t_Hole_isWater_29 {d : Nat} {x1 : Int32} {h : am_H} {Q : am_Q} {res : Bool} (e : f_Hole_isWater_29 h = some res) (q : Q (some (.int (am_b res))) h) : am_W (X_Hole_isWater (d + 1)) 29 [some (.ref 1), some (.int x1)] [] h Q :=
  b_Hole_isWater_29 (d := (d + 1)) (q := (am_rZp (v := false) e q))
theorem t_Hole_isWater_25 {d : Nat} {x1 : Int32} {h : am_H} {Q : am_Q} {res : Bool} (e : f_Hole_isWater_25 h = some res) (q : Q (some (.int (am_b res))) h) : am_W (X_Hole_isWater (d + 1)) 25 [some (.ref 1), some (.int x1)] [] h Q :=
  b_Hole_isWater_25 (d := (d + 1)) (q := (am_rZp (v := true) e q))
theorem t_Hole_isWater_15 {d : Nat} {x1 : Int32} {h : am_H} {Q : am_Q} {res : Bool} (e : f_Hole_isWater_15 h x1 = some res) (q : Q (some (.int (am_b res))) h) : am_W (X_Hole_isWater (d + 1)) 15 [some (.ref 1), some (.int x1)] [] h Q :=
  b_Hole_isWater_15 (d := (d + 1)) (q0 := (am_okv (am_gd e))) (kt := fun c => (t_Hole_isWater_29 (am_ife (am_ga e) c) q)) (kf := fun c => (t_Hole_isWater_25 (am_ift (am_ga e) c) q))
theorem t_Hole_isWater_7 {d : Nat} {x1 : Int32} {h : am_H} {Q : am_Q} {res : Bool} (e : f_Hole_isWater_7 h x1 = some res) (q : Q (some (.int (am_b res))) h) : am_W (X_Hole_isWater (d + 1)) 7 [some (.ref 1), some (.int x1)] [] h Q :=
  b_Hole_isWater_7 (d := (d + 1)) (kt := fun c => (t_Hole_isWater_29 (am_ift e c) q)) (kf := fun c => (t_Hole_isWater_15 (am_ife e c) q))
theorem t_Hole_isWater_4 {d : Nat} {x1 : Int32} {y0 : Bool} {h : am_H} {Q : am_Q} {res : Bool} (e : f_Hole_isWater_4 h x1 y0 = some res) (q : Q (some (.int (am_b res))) h) : am_W (X_Hole_isWater (d + 1)) 4 [some (.ref 1), some (.int x1)] [.int (am_b y0)] h Q :=
  b_Hole_isWater_4 (d := (d + 1)) (kt := fun c => (t_Hole_isWater_29 (am_iff e (am_bz c)) q)) (kf := fun c => (t_Hole_isWater_7 (am_ift e (am_bn c)) q))
theorem t_Hole_isWater_0 {d : Nat} {x1 : Int32} {h : am_H} {Q : am_Q} {res : Bool} (e : f_Hole_isWater h x1 = some res) (q : Q (some (.int (am_b res))) h) : am_W (X_Hole_isWater (d + 1)) 0 [some (.ref 1), some (.int x1)] [] h Q :=
  b_Hole_isWater_0 (d := d) (k := c_Hole_isCell (d := d) rfl (t_Hole_isWater_4 e q))
theorem c_Hole_isWater {d : Nat} {x1 : Int32} {h : am_H} {Q : am_Q} {res : Bool} (e : f_Hole_isWater h x1 = some res) (q : Q (some (.int (am_b res))) h) : m_Hole_isWater (d + 1) [.ref 1, .int x1] h Q :=
  e_Hole_isWater (t_Hole_isWater_0 e q)
theorem d_Hole_waysToLie_0 : decode prog_5_method_33_code 0 = .ok (.aload_n 0, 1) := by decide +kernel
theorem d_Hole_waysToLie_1 : decode prog_5_method_33_code 1 = .ok (.iload_n 1, 1) := by decide +kernel
theorem d_Hole_waysToLie_2 : decode prog_5_method_33_code 2 = .ok (.iload_n 2, 1) := by decide +kernel
theorem d_Hole_waysToLie_3 : decode prog_5_method_33_code 3 = .ok (.invokevirtual 113, 3) := by decide +kernel
theorem d_Hole_waysToLie_6 : decode prog_5_method_33_code 6 = .ok (.istore 5, 2) := by decide +kernel
theorem d_Hole_waysToLie_8 : decode prog_5_method_33_code 8 = .ok (.iconst 0, 1) := by decide +kernel
theorem d_Hole_waysToLie_9 : decode prog_5_method_33_code 9 = .ok (.istore 6, 2) := by decide +kernel
theorem d_Hole_waysToLie_11 : decode prog_5_method_33_code 11 = .ok (.iload_n 3, 1) := by decide +kernel
theorem d_Hole_waysToLie_12 : decode prog_5_method_33_code 12 = .ok (.ineg, 1) := by decide +kernel
theorem d_Hole_waysToLie_13 : decode prog_5_method_33_code 13 = .ok (.istore 7, 2) := by decide +kernel
theorem d_Hole_waysToLie_15 : decode prog_5_method_33_code 15 = .ok (.iload 7, 2) := by decide +kernel
theorem d_Hole_waysToLie_17 : decode prog_5_method_33_code 17 = .ok (.iload_n 3, 1) := by decide +kernel
theorem d_Hole_waysToLie_18 : decode prog_5_method_33_code 18 = .ok (.if_icmp .gt 53, 3) := by decide +kernel
theorem d_Hole_waysToLie_21 : decode prog_5_method_33_code 21 = .ok (.iload 5, 2) := by decide +kernel
theorem d_Hole_waysToLie_23 : decode prog_5_method_33_code 23 = .ok (.iload 7, 2) := by decide +kernel
theorem d_Hole_waysToLie_25 : decode prog_5_method_33_code 25 = .ok (.iadd, 1) := by decide +kernel
theorem d_Hole_waysToLie_26 : decode prog_5_method_33_code 26 = .ok (.invokestatic 116, 3) := by decide +kernel
theorem d_Hole_waysToLie_29 : decode prog_5_method_33_code 29 = .ok (.istore 8, 2) := by decide +kernel
theorem d_Hole_waysToLie_31 : decode prog_5_method_33_code 31 = .ok (.aload_n 0, 1) := by decide +kernel
theorem d_Hole_waysToLie_32 : decode prog_5_method_33_code 32 = .ok (.iload 8, 2) := by decide +kernel
theorem d_Hole_waysToLie_34 : decode prog_5_method_33_code 34 = .ok (.invokevirtual 104, 3) := by decide +kernel
theorem d_Hole_waysToLie_37 : decode prog_5_method_33_code 37 = .ok (.ifCond .eq 7, 3) := by decide +kernel
theorem d_Hole_waysToLie_40 : decode prog_5_method_33_code 40 = .ok (.iload_n 1, 1) := by decide +kernel
theorem d_Hole_waysToLie_41 : decode prog_5_method_33_code 41 = .ok (.goto 5, 3) := by decide +kernel
theorem d_Hole_waysToLie_44 : decode prog_5_method_33_code 44 = .ok (.iload 8, 2) := by decide +kernel
theorem d_Hole_waysToLie_46 : decode prog_5_method_33_code 46 = .ok (.istore 9, 2) := by decide +kernel
theorem d_Hole_waysToLie_48 : decode prog_5_method_33_code 48 = .ok (.iload 6, 2) := by decide +kernel
theorem d_Hole_waysToLie_50 : decode prog_5_method_33_code 50 = .ok (.iload 9, 2) := by decide +kernel
theorem d_Hole_waysToLie_52 : decode prog_5_method_33_code 52 = .ok (.iload 4, 2) := by decide +kernel
theorem d_Hole_waysToLie_54 : decode prog_5_method_33_code 54 = .ok (.if_icmp .ne 7, 3) := by decide +kernel
theorem d_Hole_waysToLie_57 : decode prog_5_method_33_code 57 = .ok (.iconst 1, 1) := by decide +kernel
theorem d_Hole_waysToLie_58 : decode prog_5_method_33_code 58 = .ok (.goto 4, 3) := by decide +kernel
theorem d_Hole_waysToLie_61 : decode prog_5_method_33_code 61 = .ok (.iconst 0, 1) := by decide +kernel
theorem d_Hole_waysToLie_62 : decode prog_5_method_33_code 62 = .ok (.iadd, 1) := by decide +kernel
theorem d_Hole_waysToLie_63 : decode prog_5_method_33_code 63 = .ok (.istore 6, 2) := by decide +kernel
theorem d_Hole_waysToLie_65 : decode prog_5_method_33_code 65 = .ok (.iinc 7 1, 3) := by decide +kernel
theorem d_Hole_waysToLie_68 : decode prog_5_method_33_code 68 = .ok (.goto (-53), 3) := by decide +kernel
theorem d_Hole_waysToLie_71 : decode prog_5_method_33_code 71 = .ok (.iload 6, 2) := by decide +kernel
theorem d_Hole_waysToLie_73 : decode prog_5_method_33_code 73 = .ok (.ireturn, 1) := by decide +kernel
theorem b_Hole_waysToLie_0 {d : Nat} {x1 : Int32} {x2 : Int32} {x3 : Int32} {x4 : Int32} {h : am_H} {Q : am_Q} (k : m_Hole_aim d [.ref 1, .int x1, .int x2] h (fun r hh => am_W (X_Hole_waysToLie (d + 1)) 6 [some (.ref 1), some (.int x1), some (.int x2), some (.int x3), some (.int x4), none, none, none, none, none] (r.toList ++ []) hh Q)) : am_W (X_Hole_waysToLie (d + 1)) 0 [some (.ref 1), some (.int x1), some (.int x2), some (.int x3), some (.int x4), none, none, none, none, none] [] h Q :=
  am_aload_n d_Hole_waysToLie_0 rfl (i := 0) rfl <|
    am_iload_n d_Hole_waysToLie_1 rfl (i := 1) rfl <|
    am_iload_n d_Hole_waysToLie_2 rfl (i := 2) rfl <|
    am_callV (vs := [.int x1, .int x2]) (st := []) (k := 1) (ci := 1) rfl d_Hole_waysToLie_3 rfl rfl w_696 w_697 w_698 w_84 w_699 p_Hole_aim (Nat.le_of_ble_eq_true rfl) (Nat.le_of_ble_eq_true rfl) rfl k
theorem b_Hole_waysToLie_6 {d : Nat} {x1 : Int32} {x2 : Int32} {x3 : Int32} {x4 : Int32} {y0 : Int32} {h : am_H} {Q : am_Q} (k : am_W (X_Hole_waysToLie d) 15 [some (.ref 1), some (.int x1), some (.int x2), some (.int x3), some (.int x4), some (.int y0), some (.int 0), some (.int (-x3)), none, none] [] h Q) : am_W (X_Hole_waysToLie d) 6 [some (.ref 1), some (.int x1), some (.int x2), some (.int x3), some (.int x4), none, none, none, none, none] [.int y0] h Q :=
  am_istore (ls' := [some (.ref 1), some (.int x1), some (.int x2), some (.int x3), some (.int x4), some (.int y0), none, none, none, none]) d_Hole_waysToLie_6 (Nat.le_of_ble_eq_true rfl) rfl <|
    am_iconst (v := 0) d_Hole_waysToLie_8 (by decide) <|
    am_istore (ls' := [some (.ref 1), some (.int x1), some (.int x2), some (.int x3), some (.int x4), some (.int y0), some (.int 0), none, none, none]) d_Hole_waysToLie_9 (Nat.le_of_ble_eq_true rfl) rfl <|
    am_iload_n d_Hole_waysToLie_11 rfl (i := 3) rfl <|
    am_ineg d_Hole_waysToLie_12 <|
    am_istore (ls' := [some (.ref 1), some (.int x1), some (.int x2), some (.int x3), some (.int x4), some (.int y0), some (.int 0), some (.int (-x3)), none, none]) d_Hole_waysToLie_13 (Nat.le_of_ble_eq_true rfl) rfl <|
    k
theorem b_Hole_waysToLie_15 {d : Nat} {x1 : Int32} {x2 : Int32} {x3 : Int32} {x4 : Int32} {x5 : Int32} {x6 : Int32} {x7 : Int32} {h : am_H} {Q : am_Q} (kt : x3 < x7 → am_W (X_Hole_waysToLie d) 71 [some (.ref 1), some (.int x1), some (.int x2), some (.int x3), some (.int x4), some (.int x5), some (.int x6), some (.int x7), none, none] [] h Q) (kf : ¬ x3 < x7 → am_W (X_Hole_waysToLie d) 21 [some (.ref 1), some (.int x1), some (.int x2), some (.int x3), some (.int x4), some (.int x5), some (.int x6), some (.int x7), none, none] [] h Q) : am_W (X_Hole_waysToLie d) 15 [some (.ref 1), some (.int x1), some (.int x2), some (.int x3), some (.int x4), some (.int x5), some (.int x6), some (.int x7), none, none] [] h Q :=
  am_iload d_Hole_waysToLie_15 rfl <|
    am_iload_n d_Hole_waysToLie_17 rfl (i := 3) rfl <|
    am_icmp_gt (tgt := 71) d_Hole_waysToLie_18 (by decide) kt kf
theorem b_Hole_waysToLie_21 {d : Nat} {x1 : Int32} {x2 : Int32} {x3 : Int32} {x4 : Int32} {x5 : Int32} {x6 : Int32} {x7 : Int32} {h : am_H} {Q : am_Q} (k : m_Hole_held d [.int (x5 + x7)] h (fun r hh => am_W (X_Hole_waysToLie (d + 1)) 29 [some (.ref 1), some (.int x1), some (.int x2), some (.int x3), some (.int x4), some (.int x5), some (.int x6), some (.int x7), none, none] (r.toList ++ []) hh Q)) : am_W (X_Hole_waysToLie (d + 1)) 21 [some (.ref 1), some (.int x1), some (.int x2), some (.int x3), some (.int x4), some (.int x5), some (.int x6), some (.int x7), none, none] [] h Q :=
  am_iload d_Hole_waysToLie_21 rfl <|
    am_iload d_Hole_waysToLie_23 rfl <|
    am_iadd d_Hole_waysToLie_25 <|
    am_callS (vs := [.int (x5 + x7)]) (st := []) rfl d_Hole_waysToLie_26 w_700 w_701 w_84 w_702 p_Hole_held (Nat.le_of_ble_eq_true rfl) (Nat.le_of_ble_eq_true rfl) rfl k
theorem b_Hole_waysToLie_29 {d : Nat} {x1 : Int32} {x2 : Int32} {x3 : Int32} {x4 : Int32} {x5 : Int32} {x6 : Int32} {x7 : Int32} {y0 : Int32} {h : am_H} {Q : am_Q} (k : m_Hole_isWater d [.ref 1, .int y0] h (fun r hh => am_W (X_Hole_waysToLie (d + 1)) 37 [some (.ref 1), some (.int x1), some (.int x2), some (.int x3), some (.int x4), some (.int x5), some (.int x6), some (.int x7), some (.int y0), none] (r.toList ++ []) hh Q)) : am_W (X_Hole_waysToLie (d + 1)) 29 [some (.ref 1), some (.int x1), some (.int x2), some (.int x3), some (.int x4), some (.int x5), some (.int x6), some (.int x7), none, none] [.int y0] h Q :=
  am_istore (ls' := [some (.ref 1), some (.int x1), some (.int x2), some (.int x3), some (.int x4), some (.int x5), some (.int x6), some (.int x7), some (.int y0), none]) d_Hole_waysToLie_29 (Nat.le_of_ble_eq_true rfl) rfl <|
    am_aload_n d_Hole_waysToLie_31 rfl (i := 0) rfl <|
    am_iload d_Hole_waysToLie_32 rfl <|
    am_callV (vs := [.int y0]) (st := []) (k := 1) (ci := 1) rfl d_Hole_waysToLie_34 rfl rfl w_703 w_704 w_705 w_84 w_706 p_Hole_isWater (Nat.le_of_ble_eq_true rfl) (Nat.le_of_ble_eq_true rfl) rfl k
theorem b_Hole_waysToLie_37 {d : Nat} {x1 : Int32} {x2 : Int32} {x3 : Int32} {x4 : Int32} {x5 : Int32} {x6 : Int32} {x7 : Int32} {x8 : Int32} {y0 : Bool} {h : am_H} {Q : am_Q} (kt : (am_b y0) = 0 → am_W (X_Hole_waysToLie d) 44 [some (.ref 1), some (.int x1), some (.int x2), some (.int x3), some (.int x4), some (.int x5), some (.int x6), some (.int x7), some (.int x8), none] [] h Q) (kf : ¬ (am_b y0) = 0 → am_W (X_Hole_waysToLie d) 40 [some (.ref 1), some (.int x1), some (.int x2), some (.int x3), some (.int x4), some (.int x5), some (.int x6), some (.int x7), some (.int x8), none] [] h Q) : am_W (X_Hole_waysToLie d) 37 [some (.ref 1), some (.int x1), some (.int x2), some (.int x3), some (.int x4), some (.int x5), some (.int x6), some (.int x7), some (.int x8), none] [.int (am_b y0)] h Q :=
  am_if_eq (tgt := 44) d_Hole_waysToLie_37 (by decide) kt kf
theorem b_Hole_waysToLie_40 {d : Nat} {x1 : Int32} {x2 : Int32} {x3 : Int32} {x4 : Int32} {x5 : Int32} {x6 : Int32} {x7 : Int32} {x8 : Int32} {h : am_H} {Q : am_Q} (k : am_W (X_Hole_waysToLie d) 46 [some (.ref 1), some (.int x1), some (.int x2), some (.int x3), some (.int x4), some (.int x5), some (.int x6), some (.int x7), some (.int x8), none] [.int x1] h Q) : am_W (X_Hole_waysToLie d) 40 [some (.ref 1), some (.int x1), some (.int x2), some (.int x3), some (.int x4), some (.int x5), some (.int x6), some (.int x7), some (.int x8), none] [] h Q :=
  am_iload_n d_Hole_waysToLie_40 rfl (i := 1) rfl <|
    am_goto (tgt := 46) d_Hole_waysToLie_41 (by decide) k
theorem b_Hole_waysToLie_44 {d : Nat} {x1 : Int32} {x2 : Int32} {x3 : Int32} {x4 : Int32} {x5 : Int32} {x6 : Int32} {x7 : Int32} {x8 : Int32} {h : am_H} {Q : am_Q} (k : am_W (X_Hole_waysToLie d) 46 [some (.ref 1), some (.int x1), some (.int x2), some (.int x3), some (.int x4), some (.int x5), some (.int x6), some (.int x7), some (.int x8), none] [.int x8] h Q) : am_W (X_Hole_waysToLie d) 44 [some (.ref 1), some (.int x1), some (.int x2), some (.int x3), some (.int x4), some (.int x5), some (.int x6), some (.int x7), some (.int x8), none] [] h Q :=
  am_iload d_Hole_waysToLie_44 rfl <|
    k
theorem b_Hole_waysToLie_46 {d : Nat} {x1 : Int32} {x2 : Int32} {x3 : Int32} {x4 : Int32} {x5 : Int32} {x6 : Int32} {x7 : Int32} {x8 : Int32} {y0 : Int32} {h : am_H} {Q : am_Q} (kt : ¬ y0 = x4 → am_W (X_Hole_waysToLie d) 61 [some (.ref 1), some (.int x1), some (.int x2), some (.int x3), some (.int x4), some (.int x5), some (.int x6), some (.int x7), some (.int x8), some (.int y0)] [.int x6] h Q) (kf : y0 = x4 → am_W (X_Hole_waysToLie d) 57 [some (.ref 1), some (.int x1), some (.int x2), some (.int x3), some (.int x4), some (.int x5), some (.int x6), some (.int x7), some (.int x8), some (.int y0)] [.int x6] h Q) : am_W (X_Hole_waysToLie d) 46 [some (.ref 1), some (.int x1), some (.int x2), some (.int x3), some (.int x4), some (.int x5), some (.int x6), some (.int x7), some (.int x8), none] [.int y0] h Q :=
  am_istore (ls' := [some (.ref 1), some (.int x1), some (.int x2), some (.int x3), some (.int x4), some (.int x5), some (.int x6), some (.int x7), some (.int x8), some (.int y0)]) d_Hole_waysToLie_46 (Nat.le_of_ble_eq_true rfl) rfl <|
    am_iload d_Hole_waysToLie_48 rfl <|
    am_iload d_Hole_waysToLie_50 rfl <|
    am_iload d_Hole_waysToLie_52 rfl <|
    am_icmp_ne (tgt := 61) d_Hole_waysToLie_54 (by decide) kt kf
theorem b_Hole_waysToLie_57 {d : Nat} {x1 : Int32} {x2 : Int32} {x3 : Int32} {x4 : Int32} {x5 : Int32} {x6 : Int32} {x7 : Int32} {x8 : Int32} {x9 : Int32} {y0 : Int32} {h : am_H} {Q : am_Q} (k : am_W (X_Hole_waysToLie d) 62 [some (.ref 1), some (.int x1), some (.int x2), some (.int x3), some (.int x4), some (.int x5), some (.int x6), some (.int x7), some (.int x8), some (.int x9)] [.int 1, .int y0] h Q) : am_W (X_Hole_waysToLie d) 57 [some (.ref 1), some (.int x1), some (.int x2), some (.int x3), some (.int x4), some (.int x5), some (.int x6), some (.int x7), some (.int x8), some (.int x9)] [.int y0] h Q :=
  am_iconst (v := 1) d_Hole_waysToLie_57 (by decide) <|
    am_goto (tgt := 62) d_Hole_waysToLie_58 (by decide) k
theorem b_Hole_waysToLie_61 {d : Nat} {x1 : Int32} {x2 : Int32} {x3 : Int32} {x4 : Int32} {x5 : Int32} {x6 : Int32} {x7 : Int32} {x8 : Int32} {x9 : Int32} {y0 : Int32} {h : am_H} {Q : am_Q} (k : am_W (X_Hole_waysToLie d) 62 [some (.ref 1), some (.int x1), some (.int x2), some (.int x3), some (.int x4), some (.int x5), some (.int x6), some (.int x7), some (.int x8), some (.int x9)] [.int 0, .int y0] h Q) : am_W (X_Hole_waysToLie d) 61 [some (.ref 1), some (.int x1), some (.int x2), some (.int x3), some (.int x4), some (.int x5), some (.int x6), some (.int x7), some (.int x8), some (.int x9)] [.int y0] h Q :=
  am_iconst (v := 0) d_Hole_waysToLie_61 (by decide) <|
    k
theorem b_Hole_waysToLie_62 {d : Nat} {x1 : Int32} {x2 : Int32} {x3 : Int32} {x4 : Int32} {x5 : Int32} {x6 : Int32} {x7 : Int32} {x8 : Int32} {x9 : Int32} {y1 : Int32} {y0 : Int32} {h : am_H} {Q : am_Q} (k : am_W (X_Hole_waysToLie d) 15 [some (.ref 1), some (.int x1), some (.int x2), some (.int x3), some (.int x4), some (.int x5), some (.int (y0 + y1)), some (.int (x7 + 1)), some (.int x8), some (.int x9)] [] h Q) : am_W (X_Hole_waysToLie d) 62 [some (.ref 1), some (.int x1), some (.int x2), some (.int x3), some (.int x4), some (.int x5), some (.int x6), some (.int x7), some (.int x8), some (.int x9)] [.int y1, .int y0] h Q :=
  am_iadd d_Hole_waysToLie_62 <|
    am_istore (ls' := [some (.ref 1), some (.int x1), some (.int x2), some (.int x3), some (.int x4), some (.int x5), some (.int (y0 + y1)), some (.int x7), some (.int x8), some (.int x9)]) d_Hole_waysToLie_63 (Nat.le_of_ble_eq_true rfl) rfl <|
    am_iinc (v := (x7 + 1)) (ls' := [some (.ref 1), some (.int x1), some (.int x2), some (.int x3), some (.int x4), some (.int x5), some (.int (y0 + y1)), some (.int (x7 + 1)), some (.int x8), some (.int x9)]) d_Hole_waysToLie_65 rfl rfl (Nat.le_of_ble_eq_true rfl) rfl <|
    am_goto (tgt := 15) d_Hole_waysToLie_68 (by decide) k
theorem b_Hole_waysToLie_71 {d : Nat} {x1 : Int32} {x2 : Int32} {x3 : Int32} {x4 : Int32} {x5 : Int32} {x6 : Int32} {x7 : Int32} {h : am_H} {Q : am_Q} (q : Q (some (.int x6)) h) : am_W (X_Hole_waysToLie d) 71 [some (.ref 1), some (.int x1), some (.int x2), some (.int x3), some (.int x4), some (.int x5), some (.int x6), some (.int x7), none, none] [] h Q :=
  am_iload d_Hole_waysToLie_71 rfl <|
    am_iret rfl d_Hole_waysToLie_73 q
theorem t_Hole_waysToLie_71 {d : Nat} {x1 : Int32} {x2 : Int32} {x3 : Int32} {x4 : Int32} {x5 : Int32} {x6 : Int32} {x7 : Int32} {h : am_H} {Q : am_Q} {res : Int32} (e : f_Hole_waysToLie_71 h x6 = some res) (q : Q (some (.int res)) h) : am_W (X_Hole_waysToLie (d + 2)) 71 [some (.ref 1), some (.int x1), some (.int x2), some (.int x3), some (.int x4), some (.int x5), some (.int x6), some (.int x7), none, none] [] h Q :=
  b_Hole_waysToLie_71 (d := (d + 2)) (q := (am_rIp (v := x6) e q))
theorem t_Hole_waysToLie_62 {d : Nat} {k15 : Int32 → Int32 → Int32 → Int32 → Int32 → Int32 → Option (Int32)} {x1 : Int32} {x2 : Int32} {x3 : Int32} {x4 : Int32} {x5 : Int32} {x6 : Int32} {x7 : Int32} {x8 : Int32} {x9 : Int32} {y1 : Int32} {y0 : Int32} {h : am_H} {Q : am_Q} {res : Int32} (hk15 : ∀ (x1 : Int32) (x2 : Int32) (x3 : Int32) (x4 : Int32) (x5 : Int32) (x6 : Int32) (x7 : Int32), k15 x1 x3 x4 x5 x6 x7 = some res → am_W (X_Hole_waysToLie (d + 2)) 15 [some (.ref 1), some (.int x1), some (.int x2), some (.int x3), some (.int x4), some (.int x5), some (.int x6), some (.int x7), none, none] [] h Q) (e : f_Hole_waysToLie_62 k15 h x1 x3 x4 x5 x7 y1 y0 = some res) (q : Q (some (.int res)) h) : am_W (X_Hole_waysToLie (d + 2)) 62 [some (.ref 1), some (.int x1), some (.int x2), some (.int x3), some (.int x4), some (.int x5), some (.int x6), some (.int x7), some (.int x8), some (.int x9)] [.int y1, .int y0] h Q :=
  b_Hole_waysToLie_62 (d := (d + 2)) (k := (am_wk2 (hk15 _ _ _ _ _ _ _ e) ⟨rfl, ⟨rfl, ⟨rfl, ⟨rfl, ⟨rfl, ⟨rfl, ⟨rfl, ⟨rfl, trivial⟩⟩⟩⟩⟩⟩⟩⟩))
theorem t_Hole_waysToLie_61 {d : Nat} {k15 : Int32 → Int32 → Int32 → Int32 → Int32 → Int32 → Option (Int32)} {x1 : Int32} {x2 : Int32} {x3 : Int32} {x4 : Int32} {x5 : Int32} {x6 : Int32} {x7 : Int32} {x8 : Int32} {x9 : Int32} {y0 : Int32} {h : am_H} {Q : am_Q} {res : Int32} (hk15 : ∀ (x1 : Int32) (x2 : Int32) (x3 : Int32) (x4 : Int32) (x5 : Int32) (x6 : Int32) (x7 : Int32), k15 x1 x3 x4 x5 x6 x7 = some res → am_W (X_Hole_waysToLie (d + 2)) 15 [some (.ref 1), some (.int x1), some (.int x2), some (.int x3), some (.int x4), some (.int x5), some (.int x6), some (.int x7), none, none] [] h Q) (e : f_Hole_waysToLie_61 k15 h x1 x3 x4 x5 x7 y0 = some res) (q : Q (some (.int res)) h) : am_W (X_Hole_waysToLie (d + 2)) 61 [some (.ref 1), some (.int x1), some (.int x2), some (.int x3), some (.int x4), some (.int x5), some (.int x6), some (.int x7), some (.int x8), some (.int x9)] [.int y0] h Q :=
  b_Hole_waysToLie_61 (d := (d + 2)) (k := (t_Hole_waysToLie_62 hk15 e q))
theorem t_Hole_waysToLie_57 {d : Nat} {k15 : Int32 → Int32 → Int32 → Int32 → Int32 → Int32 → Option (Int32)} {x1 : Int32} {x2 : Int32} {x3 : Int32} {x4 : Int32} {x5 : Int32} {x6 : Int32} {x7 : Int32} {x8 : Int32} {x9 : Int32} {y0 : Int32} {h : am_H} {Q : am_Q} {res : Int32} (hk15 : ∀ (x1 : Int32) (x2 : Int32) (x3 : Int32) (x4 : Int32) (x5 : Int32) (x6 : Int32) (x7 : Int32), k15 x1 x3 x4 x5 x6 x7 = some res → am_W (X_Hole_waysToLie (d + 2)) 15 [some (.ref 1), some (.int x1), some (.int x2), some (.int x3), some (.int x4), some (.int x5), some (.int x6), some (.int x7), none, none] [] h Q) (e : f_Hole_waysToLie_57 k15 h x1 x3 x4 x5 x7 y0 = some res) (q : Q (some (.int res)) h) : am_W (X_Hole_waysToLie (d + 2)) 57 [some (.ref 1), some (.int x1), some (.int x2), some (.int x3), some (.int x4), some (.int x5), some (.int x6), some (.int x7), some (.int x8), some (.int x9)] [.int y0] h Q :=
  b_Hole_waysToLie_57 (d := (d + 2)) (k := (t_Hole_waysToLie_62 hk15 e q))
theorem t_Hole_waysToLie_46 {d : Nat} {k15 : Int32 → Int32 → Int32 → Int32 → Int32 → Int32 → Option (Int32)} {x1 : Int32} {x2 : Int32} {x3 : Int32} {x4 : Int32} {x5 : Int32} {x6 : Int32} {x7 : Int32} {x8 : Int32} {y0 : Int32} {h : am_H} {Q : am_Q} {res : Int32} (hk15 : ∀ (x1 : Int32) (x2 : Int32) (x3 : Int32) (x4 : Int32) (x5 : Int32) (x6 : Int32) (x7 : Int32), k15 x1 x3 x4 x5 x6 x7 = some res → am_W (X_Hole_waysToLie (d + 2)) 15 [some (.ref 1), some (.int x1), some (.int x2), some (.int x3), some (.int x4), some (.int x5), some (.int x6), some (.int x7), none, none] [] h Q) (e : f_Hole_waysToLie_46 k15 h x1 x3 x4 x5 x6 x7 y0 = some res) (q : Q (some (.int res)) h) : am_W (X_Hole_waysToLie (d + 2)) 46 [some (.ref 1), some (.int x1), some (.int x2), some (.int x3), some (.int x4), some (.int x5), some (.int x6), some (.int x7), some (.int x8), none] [.int y0] h Q :=
  b_Hole_waysToLie_46 (d := (d + 2)) (kt := fun c => (t_Hole_waysToLie_61 hk15 (am_ife e c) q)) (kf := fun c => (t_Hole_waysToLie_57 hk15 (am_ift e c) q))
theorem t_Hole_waysToLie_44 {d : Nat} {k15 : Int32 → Int32 → Int32 → Int32 → Int32 → Int32 → Option (Int32)} {x1 : Int32} {x2 : Int32} {x3 : Int32} {x4 : Int32} {x5 : Int32} {x6 : Int32} {x7 : Int32} {x8 : Int32} {h : am_H} {Q : am_Q} {res : Int32} (hk15 : ∀ (x1 : Int32) (x2 : Int32) (x3 : Int32) (x4 : Int32) (x5 : Int32) (x6 : Int32) (x7 : Int32), k15 x1 x3 x4 x5 x6 x7 = some res → am_W (X_Hole_waysToLie (d + 2)) 15 [some (.ref 1), some (.int x1), some (.int x2), some (.int x3), some (.int x4), some (.int x5), some (.int x6), some (.int x7), none, none] [] h Q) (e : f_Hole_waysToLie_44 k15 h x1 x3 x4 x5 x6 x7 x8 = some res) (q : Q (some (.int res)) h) : am_W (X_Hole_waysToLie (d + 2)) 44 [some (.ref 1), some (.int x1), some (.int x2), some (.int x3), some (.int x4), some (.int x5), some (.int x6), some (.int x7), some (.int x8), none] [] h Q :=
  b_Hole_waysToLie_44 (d := (d + 2)) (k := (t_Hole_waysToLie_46 hk15 e q))
theorem t_Hole_waysToLie_40 {d : Nat} {k15 : Int32 → Int32 → Int32 → Int32 → Int32 → Int32 → Option (Int32)} {x1 : Int32} {x2 : Int32} {x3 : Int32} {x4 : Int32} {x5 : Int32} {x6 : Int32} {x7 : Int32} {x8 : Int32} {h : am_H} {Q : am_Q} {res : Int32} (hk15 : ∀ (x1 : Int32) (x2 : Int32) (x3 : Int32) (x4 : Int32) (x5 : Int32) (x6 : Int32) (x7 : Int32), k15 x1 x3 x4 x5 x6 x7 = some res → am_W (X_Hole_waysToLie (d + 2)) 15 [some (.ref 1), some (.int x1), some (.int x2), some (.int x3), some (.int x4), some (.int x5), some (.int x6), some (.int x7), none, none] [] h Q) (e : f_Hole_waysToLie_40 k15 h x1 x3 x4 x5 x6 x7 = some res) (q : Q (some (.int res)) h) : am_W (X_Hole_waysToLie (d + 2)) 40 [some (.ref 1), some (.int x1), some (.int x2), some (.int x3), some (.int x4), some (.int x5), some (.int x6), some (.int x7), some (.int x8), none] [] h Q :=
  b_Hole_waysToLie_40 (d := (d + 2)) (k := (t_Hole_waysToLie_46 hk15 e q))
theorem t_Hole_waysToLie_37 {d : Nat} {k15 : Int32 → Int32 → Int32 → Int32 → Int32 → Int32 → Option (Int32)} {x1 : Int32} {x2 : Int32} {x3 : Int32} {x4 : Int32} {x5 : Int32} {x6 : Int32} {x7 : Int32} {x8 : Int32} {y0 : Bool} {h : am_H} {Q : am_Q} {res : Int32} (hk15 : ∀ (x1 : Int32) (x2 : Int32) (x3 : Int32) (x4 : Int32) (x5 : Int32) (x6 : Int32) (x7 : Int32), k15 x1 x3 x4 x5 x6 x7 = some res → am_W (X_Hole_waysToLie (d + 2)) 15 [some (.ref 1), some (.int x1), some (.int x2), some (.int x3), some (.int x4), some (.int x5), some (.int x6), some (.int x7), none, none] [] h Q) (e : f_Hole_waysToLie_37 k15 h x1 x3 x4 x5 x6 x7 x8 y0 = some res) (q : Q (some (.int res)) h) : am_W (X_Hole_waysToLie (d + 2)) 37 [some (.ref 1), some (.int x1), some (.int x2), some (.int x3), some (.int x4), some (.int x5), some (.int x6), some (.int x7), some (.int x8), none] [.int (am_b y0)] h Q :=
  b_Hole_waysToLie_37 (d := (d + 2)) (kt := fun c => (t_Hole_waysToLie_44 hk15 (am_iff e (am_bz c)) q)) (kf := fun c => (t_Hole_waysToLie_40 hk15 (am_ift e (am_bn c)) q))
theorem t_Hole_waysToLie_29 {d : Nat} {k15 : Int32 → Int32 → Int32 → Int32 → Int32 → Int32 → Option (Int32)} {x1 : Int32} {x2 : Int32} {x3 : Int32} {x4 : Int32} {x5 : Int32} {x6 : Int32} {x7 : Int32} {y0 : Int32} {h : am_H} {Q : am_Q} {res : Int32} (hk15 : ∀ (x1 : Int32) (x2 : Int32) (x3 : Int32) (x4 : Int32) (x5 : Int32) (x6 : Int32) (x7 : Int32), k15 x1 x3 x4 x5 x6 x7 = some res → am_W (X_Hole_waysToLie (d + 2)) 15 [some (.ref 1), some (.int x1), some (.int x2), some (.int x3), some (.int x4), some (.int x5), some (.int x6), some (.int x7), none, none] [] h Q) (e : f_Hole_waysToLie_29 k15 h x1 x3 x4 x5 x6 x7 y0 = some res) (q : Q (some (.int res)) h) : am_W (X_Hole_waysToLie (d + 2)) 29 [some (.ref 1), some (.int x1), some (.int x2), some (.int x3), some (.int x4), some (.int x5), some (.int x6), some (.int x7), none, none] [.int y0] h Q :=
  (am_bd e).elim fun p hp => b_Hole_waysToLie_29 (d := (d + 1)) (k := c_Hole_isWater (d := d) hp.1 (t_Hole_waysToLie_37 hk15 hp.2 q))
theorem t_Hole_waysToLie_21 {d : Nat} {k15 : Int32 → Int32 → Int32 → Int32 → Int32 → Int32 → Option (Int32)} {x1 : Int32} {x2 : Int32} {x3 : Int32} {x4 : Int32} {x5 : Int32} {x6 : Int32} {x7 : Int32} {h : am_H} {Q : am_Q} {res : Int32} (hk15 : ∀ (x1 : Int32) (x2 : Int32) (x3 : Int32) (x4 : Int32) (x5 : Int32) (x6 : Int32) (x7 : Int32), k15 x1 x3 x4 x5 x6 x7 = some res → am_W (X_Hole_waysToLie (d + 2)) 15 [some (.ref 1), some (.int x1), some (.int x2), some (.int x3), some (.int x4), some (.int x5), some (.int x6), some (.int x7), none, none] [] h Q) (e : f_Hole_waysToLie_21 k15 h x1 x3 x4 x5 x6 x7 = some res) (q : Q (some (.int res)) h) : am_W (X_Hole_waysToLie (d + 2)) 21 [some (.ref 1), some (.int x1), some (.int x2), some (.int x3), some (.int x4), some (.int x5), some (.int x6), some (.int x7), none, none] [] h Q :=
  b_Hole_waysToLie_21 (d := (d + 1)) (k := c_Hole_held (d := d + 1) rfl (t_Hole_waysToLie_29 hk15 e q))
theorem t_Hole_waysToLie_15 {d : Nat} {k15 : Int32 → Int32 → Int32 → Int32 → Int32 → Int32 → Option (Int32)} {x1 : Int32} {x2 : Int32} {x3 : Int32} {x4 : Int32} {x5 : Int32} {x6 : Int32} {x7 : Int32} {h : am_H} {Q : am_Q} {res : Int32} (hk15 : ∀ (x1 : Int32) (x2 : Int32) (x3 : Int32) (x4 : Int32) (x5 : Int32) (x6 : Int32) (x7 : Int32), k15 x1 x3 x4 x5 x6 x7 = some res → am_W (X_Hole_waysToLie (d + 2)) 15 [some (.ref 1), some (.int x1), some (.int x2), some (.int x3), some (.int x4), some (.int x5), some (.int x6), some (.int x7), none, none] [] h Q) (e : f_Hole_waysToLie_15 k15 h x1 x3 x4 x5 x6 x7 = some res) (q : Q (some (.int res)) h) : am_W (X_Hole_waysToLie (d + 2)) 15 [some (.ref 1), some (.int x1), some (.int x2), some (.int x3), some (.int x4), some (.int x5), some (.int x6), some (.int x7), none, none] [] h Q :=
  b_Hole_waysToLie_15 (d := (d + 2)) (kt := fun c => (t_Hole_waysToLie_71 (am_ift e c) q)) (kf := fun c => (t_Hole_waysToLie_21 hk15 (am_ife e c) q))
theorem t_Hole_waysToLie_15_l {d : Nat} {h : am_H} {Q : am_Q} {res : Int32} (q : Q (some (.int res)) h) : ∀ (n : Nat) (x1 : Int32) (x2 : Int32) (x3 : Int32) (x4 : Int32) (x5 : Int32) (x6 : Int32) (x7 : Int32), f_Hole_waysToLie_15_l h n x1 x3 x4 x5 x6 x7 = some res → am_W (X_Hole_waysToLie (d + 2)) 15 [some (.ref 1), some (.int x1), some (.int x2), some (.int x3), some (.int x4), some (.int x5), some (.int x6), some (.int x7), none, none] [] h Q := by
  intro n
  induction n with
  | zero => intro x1 x2 x3 x4 x5 x6 x7 e; exact am_nn e
  | succ n ih => intro x1 x2 x3 x4 x5 x6 x7 e; exact t_Hole_waysToLie_15 (fun x1 x2 x3 x4 x5 x6 x7 e => ih x1 x2 x3 x4 x5 x6 x7  e) e q
theorem t_Hole_waysToLie_6 {d : Nat} {x1 : Int32} {x2 : Int32} {x3 : Int32} {x4 : Int32} {y0 : Int32} {h : am_H} {Q : am_Q} {res : Int32} (e : f_Hole_waysToLie_6 h x1 x3 x4 y0 = some res) (q : Q (some (.int res)) h) : am_W (X_Hole_waysToLie (d + 2)) 6 [some (.ref 1), some (.int x1), some (.int x2), some (.int x3), some (.int x4), none, none, none, none, none] [.int y0] h Q :=
  b_Hole_waysToLie_6 (d := (d + 2)) (k := (t_Hole_waysToLie_15_l q am_fu _ _ _ _ _ _ _ e))
theorem t_Hole_waysToLie_0 {d : Nat} {x1 : Int32} {x2 : Int32} {x3 : Int32} {x4 : Int32} {h : am_H} {Q : am_Q} {res : Int32} (e : f_Hole_waysToLie h x1 x2 x3 x4 = some res) (q : Q (some (.int res)) h) : am_W (X_Hole_waysToLie (d + 2)) 0 [some (.ref 1), some (.int x1), some (.int x2), some (.int x3), some (.int x4), none, none, none, none, none] [] h Q :=
  (am_bd e).elim fun p hp => b_Hole_waysToLie_0 (d := (d + 1)) (k := c_Hole_aim (d := d + 1) hp.1 (t_Hole_waysToLie_6 hp.2 q))
theorem c_Hole_waysToLie {d : Nat} {x1 : Int32} {x2 : Int32} {x3 : Int32} {x4 : Int32} {h : am_H} {Q : am_Q} {res : Int32} (e : f_Hole_waysToLie h x1 x2 x3 x4 = some res) (q : Q (some (.int res)) h) : m_Hole_waysToLie (d + 2) [.ref 1, .int x1, .int x2, .int x3, .int x4] h Q :=
  e_Hole_waysToLie (t_Hole_waysToLie_0 e q)
theorem d_Club_lies_0 : decode prog_1_method_9_code 0 = .ok (.aload_n 0, 1) := by decide +kernel
theorem d_Club_lies_1 : decode prog_1_method_9_code 1 = .ok (.iload_n 1, 1) := by decide +kernel
theorem d_Club_lies_2 : decode prog_1_method_9_code 2 = .ok (.invokevirtual 146, 3) := by decide +kernel
theorem d_Club_lies_5 : decode prog_1_method_9_code 5 = .ok (.ifCond .eq 17, 3) := by decide +kernel
theorem d_Club_lies_8 : decode prog_1_method_9_code 8 = .ok (.iload_n 2, 1) := by decide +kernel
theorem d_Club_lies_9 : decode prog_1_method_9_code 9 = .ok (.invokestatic 149, 3) := by decide +kernel
theorem d_Club_lies_12 : decode prog_1_method_9_code 12 = .ok (.ifCond .eq 10, 3) := by decide +kernel
theorem d_Club_lies_15 : decode prog_1_method_9_code 15 = .ok (.iload_n 3, 1) := by decide +kernel
theorem d_Club_lies_16 : decode prog_1_method_9_code 16 = .ok (.invokestatic 152, 3) := by decide +kernel
theorem d_Club_lies_19 : decode prog_1_method_9_code 19 = .ok (.ifCond .ne 7, 3) := by decide +kernel
theorem d_Club_lies_22 : decode prog_1_method_9_code 22 = .ok (.ldc2_w 155, 3) := by decide +kernel
theorem d_Club_lies_25 : decode prog_1_method_9_code 25 = .ok (.lreturn, 1) := by decide +kernel
theorem d_Club_lies_26 : decode prog_1_method_9_code 26 = .ok (.iload_n 1, 1) := by decide +kernel
theorem d_Club_lies_27 : decode prog_1_method_9_code 27 = .ok (.bipush 10, 2) := by decide +kernel
theorem d_Club_lies_29 : decode prog_1_method_9_code 29 = .ok (.irem, 1) := by decide +kernel
theorem d_Club_lies_30 : decode prog_1_method_9_code 30 = .ok (.istore 4, 2) := by decide +kernel
theorem d_Club_lies_32 : decode prog_1_method_9_code 32 = .ok (.aload_n 0, 1) := by decide +kernel
theorem d_Club_lies_33 : decode prog_1_method_9_code 33 = .ok (.getfield 12, 3) := by decide +kernel
theorem d_Club_lies_36 : decode prog_1_method_9_code 36 = .ok (.iload_n 1, 1) := by decide +kernel
theorem d_Club_lies_37 : decode prog_1_method_9_code 37 = .ok (.bipush 10, 2) := by decide +kernel
theorem d_Club_lies_39 : decode prog_1_method_9_code 39 = .ok (.idiv, 1) := by decide +kernel
theorem d_Club_lies_40 : decode prog_1_method_9_code 40 = .ok (.aload_n 0, 1) := by decide +kernel
theorem d_Club_lies_41 : decode prog_1_method_9_code 41 = .ok (.getfield 12, 3) := by decide +kernel
theorem d_Club_lies_44 : decode prog_1_method_9_code 44 = .ok (.iload 4, 2) := by decide +kernel
theorem d_Club_lies_46 : decode prog_1_method_9_code 46 = .ok (.invokevirtual 157, 3) := by decide +kernel
theorem d_Club_lies_49 : decode prog_1_method_9_code 49 = .ok (.aload_n 0, 1) := by decide +kernel
theorem d_Club_lies_50 : decode prog_1_method_9_code 50 = .ok (.getfield 12, 3) := by decide +kernel
theorem d_Club_lies_53 : decode prog_1_method_9_code 53 = .ok (.iload 4, 2) := by decide +kernel
theorem d_Club_lies_55 : decode prog_1_method_9_code 55 = .ok (.invokevirtual 160, 3) := by decide +kernel
theorem d_Club_lies_58 : decode prog_1_method_9_code 58 = .ok (.iload_n 2, 1) := by decide +kernel
theorem d_Club_lies_59 : decode prog_1_method_9_code 59 = .ok (.invokevirtual 163, 3) := by decide +kernel
theorem d_Club_lies_62 : decode prog_1_method_9_code 62 = .ok (.istore 5, 2) := by decide +kernel
theorem d_Club_lies_64 : decode prog_1_method_9_code 64 = .ok (.iload 5, 2) := by decide +kernel
theorem d_Club_lies_66 : decode prog_1_method_9_code 66 = .ok (.i2l, 1) := by decide +kernel
theorem d_Club_lies_67 : decode prog_1_method_9_code 67 = .ok (.aload_n 0, 1) := by decide +kernel
theorem d_Club_lies_68 : decode prog_1_method_9_code 68 = .ok (.getfield 12, 3) := by decide +kernel
theorem d_Club_lies_71 : decode prog_1_method_9_code 71 = .ok (.iload 4, 2) := by decide +kernel
theorem d_Club_lies_73 : decode prog_1_method_9_code 73 = .ok (.invokevirtual 167, 3) := by decide +kernel
theorem d_Club_lies_76 : decode prog_1_method_9_code 76 = .ok (.i2l, 1) := by decide +kernel
theorem d_Club_lies_77 : decode prog_1_method_9_code 77 = .ok (.iload_n 3, 1) := by decide +kernel
theorem d_Club_lies_78 : decode prog_1_method_9_code 78 = .ok (.invokestatic 170, 3) := by decide +kernel
theorem d_Club_lies_81 : decode prog_1_method_9_code 81 = .ok (.lreturn, 1) := by decide +kernel
theorem b_Club_lies_0 {d : Nat} {x1 : Int32} {x2 : Int32} {x3 : Int32} {h : am_H} {Q : am_Q} (k : m_Club_isShot d [.ref 0, .int x1] h (fun r hh => am_W (X_Club_lies (d + 1)) 5 [some (.ref 0), some (.int x1), some (.int x2), some (.int x3), none, none] (r.toList ++ []) hh Q)) : am_W (X_Club_lies (d + 1)) 0 [some (.ref 0), some (.int x1), some (.int x2), some (.int x3), none, none] [] h Q :=
  am_aload_n d_Club_lies_0 rfl (i := 0) rfl <|
    am_iload_n d_Club_lies_1 rfl (i := 1) rfl <|
    am_callV (vs := [.int x1]) (st := []) (k := 0) (ci := 0) rfl d_Club_lies_2 rfl rfl w_666 w_668 w_13 w_83 w_669 p_Club_isShot (Nat.le_of_ble_eq_true rfl) (Nat.le_of_ble_eq_true rfl) rfl k
theorem b_Club_lies_5 {d : Nat} {x1 : Int32} {x2 : Int32} {x3 : Int32} {y0 : Bool} {h : am_H} {Q : am_Q} (kt : (am_b y0) = 0 → am_W (X_Club_lies d) 22 [some (.ref 0), some (.int x1), some (.int x2), some (.int x3), none, none] [] h Q) (kf : ¬ (am_b y0) = 0 → am_W (X_Club_lies d) 8 [some (.ref 0), some (.int x1), some (.int x2), some (.int x3), none, none] [] h Q) : am_W (X_Club_lies d) 5 [some (.ref 0), some (.int x1), some (.int x2), some (.int x3), none, none] [.int (am_b y0)] h Q :=
  am_if_eq (tgt := 22) d_Club_lies_5 (by decide) kt kf
theorem b_Club_lies_8 {d : Nat} {x1 : Int32} {x2 : Int32} {x3 : Int32} {h : am_H} {Q : am_Q} (k : m_Hole_isCell d [.int x2] h (fun r hh => am_W (X_Club_lies (d + 1)) 12 [some (.ref 0), some (.int x1), some (.int x2), some (.int x3), none, none] (r.toList ++ []) hh Q)) : am_W (X_Club_lies (d + 1)) 8 [some (.ref 0), some (.int x1), some (.int x2), some (.int x3), none, none] [] h Q :=
  am_iload_n d_Club_lies_8 rfl (i := 2) rfl <|
    am_callS (vs := [.int x2]) (st := []) rfl d_Club_lies_9 w_679 w_469 w_84 w_470 p_Hole_isCell (Nat.le_of_ble_eq_true rfl) (Nat.le_of_ble_eq_true rfl) rfl k
theorem b_Club_lies_12 {d : Nat} {x1 : Int32} {x2 : Int32} {x3 : Int32} {y0 : Bool} {h : am_H} {Q : am_Q} (kt : (am_b y0) = 0 → am_W (X_Club_lies d) 22 [some (.ref 0), some (.int x1), some (.int x2), some (.int x3), none, none] [] h Q) (kf : ¬ (am_b y0) = 0 → am_W (X_Club_lies d) 15 [some (.ref 0), some (.int x1), some (.int x2), some (.int x3), none, none] [] h Q) : am_W (X_Club_lies d) 12 [some (.ref 0), some (.int x1), some (.int x2), some (.int x3), none, none] [.int (am_b y0)] h Q :=
  am_if_eq (tgt := 22) d_Club_lies_12 (by decide) kt kf
theorem b_Club_lies_15 {d : Nat} {x1 : Int32} {x2 : Int32} {x3 : Int32} {h : am_H} {Q : am_Q} (k : m_Club_isFractionPart d [.int x3] h (fun r hh => am_W (X_Club_lies (d + 1)) 19 [some (.ref 0), some (.int x1), some (.int x2), some (.int x3), none, none] (r.toList ++ []) hh Q)) : am_W (X_Club_lies (d + 1)) 15 [some (.ref 0), some (.int x1), some (.int x2), some (.int x3), none, none] [] h Q :=
  am_iload_n d_Club_lies_15 rfl (i := 3) rfl <|
    am_callS (vs := [.int x3]) (st := []) rfl d_Club_lies_16 w_680 w_681 w_83 w_682 p_Club_isFractionPart (Nat.le_of_ble_eq_true rfl) (Nat.le_of_ble_eq_true rfl) rfl k
theorem b_Club_lies_19 {d : Nat} {x1 : Int32} {x2 : Int32} {x3 : Int32} {y0 : Bool} {h : am_H} {Q : am_Q} (kt : ¬ (am_b y0) = 0 → am_W (X_Club_lies d) 26 [some (.ref 0), some (.int x1), some (.int x2), some (.int x3), none, none] [] h Q) (kf : (am_b y0) = 0 → am_W (X_Club_lies d) 22 [some (.ref 0), some (.int x1), some (.int x2), some (.int x3), none, none] [] h Q) : am_W (X_Club_lies d) 19 [some (.ref 0), some (.int x1), some (.int x2), some (.int x3), none, none] [.int (am_b y0)] h Q :=
  am_if_ne (tgt := 26) d_Club_lies_19 (by decide) kt kf
theorem b_Club_lies_22 {d : Nat} {x1 : Int32} {x2 : Int32} {x3 : Int32} {h : am_H} {Q : am_Q} (q : Q (some (.long (-9223372036854775808))) h) : am_W (X_Club_lies d) 22 [some (.ref 0), some (.int x1), some (.int x2), some (.int x3), none, none] [] h Q :=
  am_ldc2 (v := (-9223372036854775808)) d_Club_lies_22 w_683 <|
    am_lret rfl d_Club_lies_25 q
theorem b_Club_lies_26 {d : Nat} {x1 : Int32} {x2 : Int32} {x3 : Int32} {h : am_H} {Q : am_Q} (k : m_Hole_carryOf d [.ref 1, .int (x1 - x1 / 10 * 10)] h (fun r hh => am_W (X_Club_lies (d + 1)) 49 [some (.ref 0), some (.int x1), some (.int x2), some (.int x3), some (.int (x1 - x1 / 10 * 10)), none] (r.toList ++ [.int (x1 / 10), .ref 1]) hh Q)) : am_W (X_Club_lies (d + 1)) 26 [some (.ref 0), some (.int x1), some (.int x2), some (.int x3), none, none] [] h Q :=
  am_iload_n d_Club_lies_26 rfl (i := 1) rfl <|
    am_bipush (v := 10) d_Club_lies_27 (by decide) <|
    am_irem d_Club_lies_29 (by decide) <|
    am_istore (ls' := [some (.ref 0), some (.int x1), some (.int x2), some (.int x3), some (.int (x1 - x1 / 10 * 10)), none]) d_Club_lies_30 (Nat.le_of_ble_eq_true rfl) rfl <|
    am_aload_n d_Club_lies_32 rfl (i := 0) rfl <|
    am_getR (ci := 0) (i := 0) rfl rfl rfl (Nat.le_of_ble_eq_true rfl) w_362 d_Club_lies_33 <|
    am_iload_n d_Club_lies_36 rfl (i := 1) rfl <|
    am_bipush (v := 10) d_Club_lies_37 (by decide) <|
    am_idiv d_Club_lies_39 (by decide) <|
    am_aload_n d_Club_lies_40 rfl (i := 0) rfl <|
    am_getR (ci := 0) (i := 0) rfl rfl rfl (Nat.le_of_ble_eq_true rfl) w_362 d_Club_lies_41 <|
    am_iload d_Club_lies_44 rfl <|
    am_callV (vs := [.int (x1 - x1 / 10 * 10)]) (st := [.int (x1 / 10), .ref 1]) (k := 1) (ci := 1) rfl d_Club_lies_46 rfl rfl w_684 w_685 w_686 w_84 w_687 p_Hole_carryOf (Nat.le_of_ble_eq_true rfl) (Nat.le_of_ble_eq_true rfl) rfl k
theorem b_Club_lies_49 {d : Nat} {x1 : Int32} {x2 : Int32} {x3 : Int32} {x4 : Int32} {y2 : Int32} {y1 : Int32} {h : am_H} {Q : am_Q} (k : m_Hole_spreadOf d [.ref 1, .int x4] h (fun r hh => am_W (X_Club_lies (d + 1)) 58 [some (.ref 0), some (.int x1), some (.int x2), some (.int x3), some (.int x4), none] (r.toList ++ [.int y2, .int y1, .ref 1]) hh Q)) : am_W (X_Club_lies (d + 1)) 49 [some (.ref 0), some (.int x1), some (.int x2), some (.int x3), some (.int x4), none] [.int y2, .int y1, .ref 1] h Q :=
  am_aload_n d_Club_lies_49 rfl (i := 0) rfl <|
    am_getR (ci := 0) (i := 0) rfl rfl rfl (Nat.le_of_ble_eq_true rfl) w_362 d_Club_lies_50 <|
    am_iload d_Club_lies_53 rfl <|
    am_callV (vs := [.int x4]) (st := [.int y2, .int y1, .ref 1]) (k := 1) (ci := 1) rfl d_Club_lies_55 rfl rfl w_688 w_689 w_690 w_84 w_691 p_Hole_spreadOf (Nat.le_of_ble_eq_true rfl) (Nat.le_of_ble_eq_true rfl) rfl k
theorem b_Club_lies_58 {d : Nat} {x1 : Int32} {x2 : Int32} {x3 : Int32} {x4 : Int32} {y3 : Int32} {y2 : Int32} {y1 : Int32} {h : am_H} {Q : am_Q} (k : m_Hole_waysToLie d [.ref 1, .int y1, .int y2, .int y3, .int x2] h (fun r hh => am_W (X_Club_lies (d + 1)) 62 [some (.ref 0), some (.int x1), some (.int x2), some (.int x3), some (.int x4), none] (r.toList ++ []) hh Q)) : am_W (X_Club_lies (d + 1)) 58 [some (.ref 0), some (.int x1), some (.int x2), some (.int x3), some (.int x4), none] [.int y3, .int y2, .int y1, .ref 1] h Q :=
  am_iload_n d_Club_lies_58 rfl (i := 2) rfl <|
    am_callV (vs := [.int y1, .int y2, .int y3, .int x2]) (st := []) (k := 1) (ci := 1) rfl d_Club_lies_59 rfl rfl w_692 w_693 w_694 w_84 w_695 p_Hole_waysToLie (Nat.le_of_ble_eq_true rfl) (Nat.le_of_ble_eq_true rfl) rfl k
theorem b_Club_lies_62 {d : Nat} {x1 : Int32} {x2 : Int32} {x3 : Int32} {x4 : Int32} {y0 : Int32} {h : am_H} {Q : am_Q} (k : m_Hole_waysOf d [.ref 1, .int x4] h (fun r hh => am_W (X_Club_lies (d + 1)) 76 [some (.ref 0), some (.int x1), some (.int x2), some (.int x3), some (.int x4), some (.int y0)] (r.toList ++ [.long y0.toInt64]) hh Q)) : am_W (X_Club_lies (d + 1)) 62 [some (.ref 0), some (.int x1), some (.int x2), some (.int x3), some (.int x4), none] [.int y0] h Q :=
  am_istore (ls' := [some (.ref 0), some (.int x1), some (.int x2), some (.int x3), some (.int x4), some (.int y0)]) d_Club_lies_62 (Nat.le_of_ble_eq_true rfl) rfl <|
    am_iload d_Club_lies_64 rfl <|
    am_i2l d_Club_lies_66 <|
    am_aload_n d_Club_lies_67 rfl (i := 0) rfl <|
    am_getR (ci := 0) (i := 0) rfl rfl rfl (Nat.le_of_ble_eq_true rfl) w_362 d_Club_lies_68 <|
    am_iload d_Club_lies_71 rfl <|
    am_callV (vs := [.int x4]) (st := [.long y0.toInt64]) (k := 1) (ci := 1) rfl d_Club_lies_73 rfl rfl w_707 w_708 w_709 w_84 w_710 p_Hole_waysOf (Nat.le_of_ble_eq_true rfl) (Nat.le_of_ble_eq_true rfl) rfl k
theorem b_Club_lies_76 {d : Nat} {x1 : Int32} {x2 : Int32} {x3 : Int32} {x4 : Int32} {x5 : Int32} {y1 : Int32} {y0 : Int64} {h : am_H} {Q : am_Q} (k : m_Club_partOf d [.long y0, .long y1.toInt64, .int x3] h (fun r hh => am_W (X_Club_lies (d + 1)) 81 [some (.ref 0), some (.int x1), some (.int x2), some (.int x3), some (.int x4), some (.int x5)] (r.toList ++ []) hh Q)) : am_W (X_Club_lies (d + 1)) 76 [some (.ref 0), some (.int x1), some (.int x2), some (.int x3), some (.int x4), some (.int x5)] [.int y1, .long y0] h Q :=
  am_i2l d_Club_lies_76 <|
    am_iload_n d_Club_lies_77 rfl (i := 3) rfl <|
    am_callS (vs := [.long y0, .long y1.toInt64, .int x3]) (st := []) rfl d_Club_lies_78 w_712 w_713 w_83 w_714 p_Club_partOf (Nat.le_of_ble_eq_true rfl) (Nat.le_of_ble_eq_true rfl) rfl k
theorem b_Club_lies_81 {d : Nat} {x1 : Int32} {x2 : Int32} {x3 : Int32} {x4 : Int32} {x5 : Int32} {y0 : Int64} {h : am_H} {Q : am_Q} (q : Q (some (.long y0)) h) : am_W (X_Club_lies d) 81 [some (.ref 0), some (.int x1), some (.int x2), some (.int x3), some (.int x4), some (.int x5)] [.long y0] h Q :=
  am_lret rfl d_Club_lies_81 q
theorem t_Club_lies_22 {d : Nat} {x1 : Int32} {x2 : Int32} {x3 : Int32} {h : am_H} {Q : am_Q} {res : Int64} (e : f_Club_lies_22 h = some res) (q : Q (some (.long res)) h) : am_W (X_Club_lies (d + 4)) 22 [some (.ref 0), some (.int x1), some (.int x2), some (.int x3), none, none] [] h Q :=
  b_Club_lies_22 (d := (d + 4)) (q := (am_rJp (v := (-9223372036854775808)) e q))
theorem t_Club_lies_81 {d : Nat} {x1 : Int32} {x2 : Int32} {x3 : Int32} {x4 : Int32} {x5 : Int32} {y0 : Int64} {h : am_H} {Q : am_Q} {res : Int64} (e : f_Club_lies_81 h y0 = some res) (q : Q (some (.long res)) h) : am_W (X_Club_lies (d + 4)) 81 [some (.ref 0), some (.int x1), some (.int x2), some (.int x3), some (.int x4), some (.int x5)] [.long y0] h Q :=
  b_Club_lies_81 (d := (d + 4)) (q := (am_rJp (v := y0) e q))
theorem t_Club_lies_76 {d : Nat} {x1 : Int32} {x2 : Int32} {x3 : Int32} {x4 : Int32} {x5 : Int32} {y1 : Int32} {y0 : Int64} {h : am_H} {Q : am_Q} {res : Int64} (e : f_Club_lies_76 h x3 y1 y0 = some res) (q : Q (some (.long res)) h) : am_W (X_Club_lies (d + 4)) 76 [some (.ref 0), some (.int x1), some (.int x2), some (.int x3), some (.int x4), some (.int x5)] [.int y1, .long y0] h Q :=
  (am_bd e).elim fun p hp => b_Club_lies_76 (d := (d + 3)) (k := c_Club_partOf (d := d + 2) hp.1 (t_Club_lies_81 hp.2 q))
theorem t_Club_lies_62 {d : Nat} {x1 : Int32} {x2 : Int32} {x3 : Int32} {x4 : Int32} {y0 : Int32} {h : am_H} {Q : am_Q} {res : Int64} (e : f_Club_lies_62 h x3 x4 y0 = some res) (q : Q (some (.long res)) h) : am_W (X_Club_lies (d + 4)) 62 [some (.ref 0), some (.int x1), some (.int x2), some (.int x3), some (.int x4), none] [.int y0] h Q :=
  (am_bd e).elim fun p hp => b_Club_lies_62 (d := (d + 3)) (k := c_Hole_waysOf (d := d + 1) hp.1 (t_Club_lies_76 hp.2 q))
theorem t_Club_lies_58 {d : Nat} {x1 : Int32} {x2 : Int32} {x3 : Int32} {x4 : Int32} {y3 : Int32} {y2 : Int32} {y1 : Int32} {h : am_H} {Q : am_Q} {res : Int64} (e : f_Club_lies_58 h x2 x3 x4 y3 y2 y1 = some res) (q : Q (some (.long res)) h) : am_W (X_Club_lies (d + 4)) 58 [some (.ref 0), some (.int x1), some (.int x2), some (.int x3), some (.int x4), none] [.int y3, .int y2, .int y1, .ref 1] h Q :=
  (am_bd e).elim fun p hp => b_Club_lies_58 (d := (d + 3)) (k := c_Hole_waysToLie (d := d + 1) hp.1 (t_Club_lies_62 hp.2 q))
theorem t_Club_lies_49 {d : Nat} {x1 : Int32} {x2 : Int32} {x3 : Int32} {x4 : Int32} {y2 : Int32} {y1 : Int32} {h : am_H} {Q : am_Q} {res : Int64} (e : f_Club_lies_49 h x2 x3 x4 y2 y1 = some res) (q : Q (some (.long res)) h) : am_W (X_Club_lies (d + 4)) 49 [some (.ref 0), some (.int x1), some (.int x2), some (.int x3), some (.int x4), none] [.int y2, .int y1, .ref 1] h Q :=
  (am_bd e).elim fun p hp => b_Club_lies_49 (d := (d + 3)) (k := c_Hole_spreadOf (d := d + 2) hp.1 (t_Club_lies_58 hp.2 q))
theorem t_Club_lies_26 {d : Nat} {x1 : Int32} {x2 : Int32} {x3 : Int32} {h : am_H} {Q : am_Q} {res : Int64} (e : f_Club_lies_26 h x1 x2 x3 = some res) (q : Q (some (.long res)) h) : am_W (X_Club_lies (d + 4)) 26 [some (.ref 0), some (.int x1), some (.int x2), some (.int x3), none, none] [] h Q :=
  (am_bd e).elim fun p hp => b_Club_lies_26 (d := (d + 3)) (k := c_Hole_carryOf (d := d + 2) hp.1 (t_Club_lies_49 hp.2 q))
theorem t_Club_lies_19 {d : Nat} {x1 : Int32} {x2 : Int32} {x3 : Int32} {y0 : Bool} {h : am_H} {Q : am_Q} {res : Int64} (e : f_Club_lies_19 h x1 x2 x3 y0 = some res) (q : Q (some (.long res)) h) : am_W (X_Club_lies (d + 4)) 19 [some (.ref 0), some (.int x1), some (.int x2), some (.int x3), none, none] [.int (am_b y0)] h Q :=
  b_Club_lies_19 (d := (d + 4)) (kt := fun c => (t_Club_lies_26 (am_ift e (am_bn c)) q)) (kf := fun c => (t_Club_lies_22 (am_iff e (am_bz c)) q))
theorem t_Club_lies_15 {d : Nat} {x1 : Int32} {x2 : Int32} {x3 : Int32} {h : am_H} {Q : am_Q} {res : Int64} (e : f_Club_lies_15 h x1 x2 x3 = some res) (q : Q (some (.long res)) h) : am_W (X_Club_lies (d + 4)) 15 [some (.ref 0), some (.int x1), some (.int x2), some (.int x3), none, none] [] h Q :=
  b_Club_lies_15 (d := (d + 3)) (k := c_Club_isFractionPart (d := d + 3) rfl (t_Club_lies_19 e q))
theorem t_Club_lies_12 {d : Nat} {x1 : Int32} {x2 : Int32} {x3 : Int32} {y0 : Bool} {h : am_H} {Q : am_Q} {res : Int64} (e : f_Club_lies_12 h x1 x2 x3 y0 = some res) (q : Q (some (.long res)) h) : am_W (X_Club_lies (d + 4)) 12 [some (.ref 0), some (.int x1), some (.int x2), some (.int x3), none, none] [.int (am_b y0)] h Q :=
  b_Club_lies_12 (d := (d + 4)) (kt := fun c => (t_Club_lies_22 (am_iff e (am_bz c)) q)) (kf := fun c => (t_Club_lies_15 (am_ift e (am_bn c)) q))
theorem t_Club_lies_8 {d : Nat} {x1 : Int32} {x2 : Int32} {x3 : Int32} {h : am_H} {Q : am_Q} {res : Int64} (e : f_Club_lies_8 h x1 x2 x3 = some res) (q : Q (some (.long res)) h) : am_W (X_Club_lies (d + 4)) 8 [some (.ref 0), some (.int x1), some (.int x2), some (.int x3), none, none] [] h Q :=
  b_Club_lies_8 (d := (d + 3)) (k := c_Hole_isCell (d := d + 3) rfl (t_Club_lies_12 e q))
theorem t_Club_lies_5 {d : Nat} {x1 : Int32} {x2 : Int32} {x3 : Int32} {y0 : Bool} {h : am_H} {Q : am_Q} {res : Int64} (e : f_Club_lies_5 h x1 x2 x3 y0 = some res) (q : Q (some (.long res)) h) : am_W (X_Club_lies (d + 4)) 5 [some (.ref 0), some (.int x1), some (.int x2), some (.int x3), none, none] [.int (am_b y0)] h Q :=
  b_Club_lies_5 (d := (d + 4)) (kt := fun c => (t_Club_lies_22 (am_iff e (am_bz c)) q)) (kf := fun c => (t_Club_lies_8 (am_ift e (am_bn c)) q))
theorem t_Club_lies_0 {d : Nat} {x1 : Int32} {x2 : Int32} {x3 : Int32} {h : am_H} {Q : am_Q} {res : Int64} (e : f_Club_lies h x1 x2 x3 = some res) (q : Q (some (.long res)) h) : am_W (X_Club_lies (d + 4)) 0 [some (.ref 0), some (.int x1), some (.int x2), some (.int x3), none, none] [] h Q :=
  (am_bd e).elim fun p hp => b_Club_lies_0 (d := (d + 3)) (k := c_Club_isShot (d := d) hp.1 (t_Club_lies_5 hp.2 q))
theorem c_Club_lies {d : Nat} {x1 : Int32} {x2 : Int32} {x3 : Int32} {h : am_H} {Q : am_Q} {res : Int64} (e : f_Club_lies h x1 x2 x3 = some res) (q : Q (some (.long res)) h) : m_Club_lies (d + 4) [.ref 0, .int x1, .int x2, .int x3] h Q :=
  e_Club_lies (t_Club_lies_0 e q)
theorem d_Hole_waysInto_0 : decode prog_5_method_34_code 0 = .ok (.aload_n 0, 1) := by decide +kernel
theorem d_Hole_waysInto_1 : decode prog_5_method_34_code 1 = .ok (.iload_n 2, 1) := by decide +kernel
theorem d_Hole_waysInto_2 : decode prog_5_method_34_code 2 = .ok (.aload_n 0, 1) := by decide +kernel
theorem d_Hole_waysInto_3 : decode prog_5_method_34_code 3 = .ok (.iload_n 3, 1) := by decide +kernel
theorem d_Hole_waysInto_4 : decode prog_5_method_34_code 4 = .ok (.invokevirtual 119, 3) := by decide +kernel
theorem d_Hole_waysInto_7 : decode prog_5_method_34_code 7 = .ok (.invokevirtual 113, 3) := by decide +kernel
theorem d_Hole_waysInto_10 : decode prog_5_method_34_code 10 = .ok (.istore 4, 2) := by decide +kernel
theorem d_Hole_waysInto_12 : decode prog_5_method_34_code 12 = .ok (.aload_n 0, 1) := by decide +kernel
theorem d_Hole_waysInto_13 : decode prog_5_method_34_code 13 = .ok (.iload_n 3, 1) := by decide +kernel
theorem d_Hole_waysInto_14 : decode prog_5_method_34_code 14 = .ok (.invokevirtual 97, 3) := by decide +kernel
theorem d_Hole_waysInto_17 : decode prog_5_method_34_code 17 = .ok (.istore 5, 2) := by decide +kernel
theorem d_Hole_waysInto_19 : decode prog_5_method_34_code 19 = .ok (.iconst 0, 1) := by decide +kernel
theorem d_Hole_waysInto_20 : decode prog_5_method_34_code 20 = .ok (.istore 6, 2) := by decide +kernel
theorem d_Hole_waysInto_22 : decode prog_5_method_34_code 22 = .ok (.iload 5, 2) := by decide +kernel
theorem d_Hole_waysInto_24 : decode prog_5_method_34_code 24 = .ok (.ineg, 1) := by decide +kernel
theorem d_Hole_waysInto_25 : decode prog_5_method_34_code 25 = .ok (.istore 7, 2) := by decide +kernel
theorem d_Hole_waysInto_27 : decode prog_5_method_34_code 27 = .ok (.iload 7, 2) := by decide +kernel
theorem d_Hole_waysInto_29 : decode prog_5_method_34_code 29 = .ok (.iload 5, 2) := by decide +kernel
theorem d_Hole_waysInto_31 : decode prog_5_method_34_code 31 = .ok (.if_icmp .gt 54, 3) := by decide +kernel
theorem d_Hole_waysInto_34 : decode prog_5_method_34_code 34 = .ok (.iload 4, 2) := by decide +kernel
theorem d_Hole_waysInto_36 : decode prog_5_method_34_code 36 = .ok (.iload 7, 2) := by decide +kernel
theorem d_Hole_waysInto_38 : decode prog_5_method_34_code 38 = .ok (.iadd, 1) := by decide +kernel
theorem d_Hole_waysInto_39 : decode prog_5_method_34_code 39 = .ok (.invokestatic 116, 3) := by decide +kernel
theorem d_Hole_waysInto_42 : decode prog_5_method_34_code 42 = .ok (.istore 8, 2) := by decide +kernel
theorem d_Hole_waysInto_44 : decode prog_5_method_34_code 44 = .ok (.iload 6, 2) := by decide +kernel
theorem d_Hole_waysInto_46 : decode prog_5_method_34_code 46 = .ok (.iload_n 1, 1) := by decide +kernel
theorem d_Hole_waysInto_47 : decode prog_5_method_34_code 47 = .ok (.ifCond .eq 15, 3) := by decide +kernel
theorem d_Hole_waysInto_50 : decode prog_5_method_34_code 50 = .ok (.aload_n 0, 1) := by decide +kernel
theorem d_Hole_waysInto_51 : decode prog_5_method_34_code 51 = .ok (.iload 8, 2) := by decide +kernel
theorem d_Hole_waysInto_53 : decode prog_5_method_34_code 53 = .ok (.invokevirtual 104, 3) := by decide +kernel
theorem d_Hole_waysInto_56 : decode prog_5_method_34_code 56 = .ok (.ifCond .eq 19, 3) := by decide +kernel
theorem d_Hole_waysInto_59 : decode prog_5_method_34_code 59 = .ok (.goto 12, 3) := by decide +kernel
theorem d_Hole_waysInto_62 : decode prog_5_method_34_code 62 = .ok (.aload_n 0, 1) := by decide +kernel
theorem d_Hole_waysInto_63 : decode prog_5_method_34_code 63 = .ok (.iload 8, 2) := by decide +kernel
theorem d_Hole_waysInto_65 : decode prog_5_method_34_code 65 = .ok (.invokevirtual 101, 3) := by decide +kernel
theorem d_Hole_waysInto_68 : decode prog_5_method_34_code 68 = .ok (.ifCond .eq 7, 3) := by decide +kernel
theorem d_Hole_waysInto_71 : decode prog_5_method_34_code 71 = .ok (.iconst 1, 1) := by decide +kernel
theorem d_Hole_waysInto_72 : decode prog_5_method_34_code 72 = .ok (.goto 4, 3) := by decide +kernel
theorem d_Hole_waysInto_75 : decode prog_5_method_34_code 75 = .ok (.iconst 0, 1) := by decide +kernel
theorem d_Hole_waysInto_76 : decode prog_5_method_34_code 76 = .ok (.iadd, 1) := by decide +kernel
theorem d_Hole_waysInto_77 : decode prog_5_method_34_code 77 = .ok (.istore 6, 2) := by decide +kernel
theorem d_Hole_waysInto_79 : decode prog_5_method_34_code 79 = .ok (.iinc 7 1, 3) := by decide +kernel
theorem d_Hole_waysInto_82 : decode prog_5_method_34_code 82 = .ok (.goto (-55), 3) := by decide +kernel
theorem d_Hole_waysInto_85 : decode prog_5_method_34_code 85 = .ok (.iload 6, 2) := by decide +kernel
theorem d_Hole_waysInto_87 : decode prog_5_method_34_code 87 = .ok (.ireturn, 1) := by decide +kernel
theorem b_Hole_waysInto_0 {d : Nat} {x1 : Int32} {x2 : Int32} {x3 : Int32} {h : am_H} {Q : am_Q} (k : m_Hole_carryOf d [.ref 1, .int x3] h (fun r hh => am_W (X_Hole_waysInto (d + 1)) 7 [some (.ref 1), some (.int x1), some (.int x2), some (.int x3), none, none, none, none, none] (r.toList ++ [.int x2, .ref 1]) hh Q)) : am_W (X_Hole_waysInto (d + 1)) 0 [some (.ref 1), some (.int x1), some (.int x2), some (.int x3), none, none, none, none, none] [] h Q :=
  am_aload_n d_Hole_waysInto_0 rfl (i := 0) rfl <|
    am_iload_n d_Hole_waysInto_1 rfl (i := 2) rfl <|
    am_aload_n d_Hole_waysInto_2 rfl (i := 0) rfl <|
    am_iload_n d_Hole_waysInto_3 rfl (i := 3) rfl <|
    am_callV (vs := [.int x3]) (st := [.int x2, .ref 1]) (k := 1) (ci := 1) rfl d_Hole_waysInto_4 rfl rfl w_729 w_685 w_686 w_84 w_687 p_Hole_carryOf (Nat.le_of_ble_eq_true rfl) (Nat.le_of_ble_eq_true rfl) rfl k
theorem b_Hole_waysInto_7 {d : Nat} {x1 : Int32} {x2 : Int32} {x3 : Int32} {y2 : Int32} {y1 : Int32} {h : am_H} {Q : am_Q} (k : m_Hole_aim d [.ref 1, .int y1, .int y2] h (fun r hh => am_W (X_Hole_waysInto (d + 1)) 10 [some (.ref 1), some (.int x1), some (.int x2), some (.int x3), none, none, none, none, none] (r.toList ++ []) hh Q)) : am_W (X_Hole_waysInto (d + 1)) 7 [some (.ref 1), some (.int x1), some (.int x2), some (.int x3), none, none, none, none, none] [.int y2, .int y1, .ref 1] h Q :=
  am_callV (vs := [.int y1, .int y2]) (st := []) (k := 1) (ci := 1) rfl d_Hole_waysInto_7 rfl rfl w_696 w_697 w_698 w_84 w_699 p_Hole_aim (Nat.le_of_ble_eq_true rfl) (Nat.le_of_ble_eq_true rfl) rfl k
theorem b_Hole_waysInto_10 {d : Nat} {x1 : Int32} {x2 : Int32} {x3 : Int32} {y0 : Int32} {h : am_H} {Q : am_Q} (k : m_Hole_spreadOf d [.ref 1, .int x3] h (fun r hh => am_W (X_Hole_waysInto (d + 1)) 17 [some (.ref 1), some (.int x1), some (.int x2), some (.int x3), some (.int y0), none, none, none, none] (r.toList ++ []) hh Q)) : am_W (X_Hole_waysInto (d + 1)) 10 [some (.ref 1), some (.int x1), some (.int x2), some (.int x3), none, none, none, none, none] [.int y0] h Q :=
  am_istore (ls' := [some (.ref 1), some (.int x1), some (.int x2), some (.int x3), some (.int y0), none, none, none, none]) d_Hole_waysInto_10 (Nat.le_of_ble_eq_true rfl) rfl <|
    am_aload_n d_Hole_waysInto_12 rfl (i := 0) rfl <|
    am_iload_n d_Hole_waysInto_13 rfl (i := 3) rfl <|
    am_callV (vs := [.int x3]) (st := []) (k := 1) (ci := 1) rfl d_Hole_waysInto_14 rfl rfl w_711 w_689 w_690 w_84 w_691 p_Hole_spreadOf (Nat.le_of_ble_eq_true rfl) (Nat.le_of_ble_eq_true rfl) rfl k
theorem b_Hole_waysInto_17 {d : Nat} {x1 : Int32} {x2 : Int32} {x3 : Int32} {x4 : Int32} {y0 : Int32} {h : am_H} {Q : am_Q} (k : am_W (X_Hole_waysInto d) 27 [some (.ref 1), some (.int x1), some (.int x2), some (.int x3), some (.int x4), some (.int y0), some (.int 0), some (.int (-y0)), none] [] h Q) : am_W (X_Hole_waysInto d) 17 [some (.ref 1), some (.int x1), some (.int x2), some (.int x3), some (.int x4), none, none, none, none] [.int y0] h Q :=
  am_istore (ls' := [some (.ref 1), some (.int x1), some (.int x2), some (.int x3), some (.int x4), some (.int y0), none, none, none]) d_Hole_waysInto_17 (Nat.le_of_ble_eq_true rfl) rfl <|
    am_iconst (v := 0) d_Hole_waysInto_19 (by decide) <|
    am_istore (ls' := [some (.ref 1), some (.int x1), some (.int x2), some (.int x3), some (.int x4), some (.int y0), some (.int 0), none, none]) d_Hole_waysInto_20 (Nat.le_of_ble_eq_true rfl) rfl <|
    am_iload d_Hole_waysInto_22 rfl <|
    am_ineg d_Hole_waysInto_24 <|
    am_istore (ls' := [some (.ref 1), some (.int x1), some (.int x2), some (.int x3), some (.int x4), some (.int y0), some (.int 0), some (.int (-y0)), none]) d_Hole_waysInto_25 (Nat.le_of_ble_eq_true rfl) rfl <|
    k
theorem b_Hole_waysInto_27 {d : Nat} {x1 : Int32} {x2 : Int32} {x3 : Int32} {x4 : Int32} {x5 : Int32} {x6 : Int32} {x7 : Int32} {h : am_H} {Q : am_Q} (kt : x5 < x7 → am_W (X_Hole_waysInto d) 85 [some (.ref 1), some (.int x1), some (.int x2), some (.int x3), some (.int x4), some (.int x5), some (.int x6), some (.int x7), none] [] h Q) (kf : ¬ x5 < x7 → am_W (X_Hole_waysInto d) 34 [some (.ref 1), some (.int x1), some (.int x2), some (.int x3), some (.int x4), some (.int x5), some (.int x6), some (.int x7), none] [] h Q) : am_W (X_Hole_waysInto d) 27 [some (.ref 1), some (.int x1), some (.int x2), some (.int x3), some (.int x4), some (.int x5), some (.int x6), some (.int x7), none] [] h Q :=
  am_iload d_Hole_waysInto_27 rfl <|
    am_iload d_Hole_waysInto_29 rfl <|
    am_icmp_gt (tgt := 85) d_Hole_waysInto_31 (by decide) kt kf
theorem b_Hole_waysInto_34 {d : Nat} {x1 : Int32} {x2 : Int32} {x3 : Int32} {x4 : Int32} {x5 : Int32} {x6 : Int32} {x7 : Int32} {h : am_H} {Q : am_Q} (k : m_Hole_held d [.int (x4 + x7)] h (fun r hh => am_W (X_Hole_waysInto (d + 1)) 42 [some (.ref 1), some (.int x1), some (.int x2), some (.int x3), some (.int x4), some (.int x5), some (.int x6), some (.int x7), none] (r.toList ++ []) hh Q)) : am_W (X_Hole_waysInto (d + 1)) 34 [some (.ref 1), some (.int x1), some (.int x2), some (.int x3), some (.int x4), some (.int x5), some (.int x6), some (.int x7), none] [] h Q :=
  am_iload d_Hole_waysInto_34 rfl <|
    am_iload d_Hole_waysInto_36 rfl <|
    am_iadd d_Hole_waysInto_38 <|
    am_callS (vs := [.int (x4 + x7)]) (st := []) rfl d_Hole_waysInto_39 w_700 w_701 w_84 w_702 p_Hole_held (Nat.le_of_ble_eq_true rfl) (Nat.le_of_ble_eq_true rfl) rfl k
theorem b_Hole_waysInto_42 {d : Nat} {x1 : Int32} {x2 : Int32} {x3 : Int32} {x4 : Int32} {x5 : Int32} {x6 : Int32} {x7 : Int32} {y0 : Int32} {h : am_H} {Q : am_Q} (kt : x1 = 0 → am_W (X_Hole_waysInto d) 62 [some (.ref 1), some (.int x1), some (.int x2), some (.int x3), some (.int x4), some (.int x5), some (.int x6), some (.int x7), some (.int y0)] [.int x6] h Q) (kf : ¬ x1 = 0 → am_W (X_Hole_waysInto d) 50 [some (.ref 1), some (.int x1), some (.int x2), some (.int x3), some (.int x4), some (.int x5), some (.int x6), some (.int x7), some (.int y0)] [.int x6] h Q) : am_W (X_Hole_waysInto d) 42 [some (.ref 1), some (.int x1), some (.int x2), some (.int x3), some (.int x4), some (.int x5), some (.int x6), some (.int x7), none] [.int y0] h Q :=
  am_istore (ls' := [some (.ref 1), some (.int x1), some (.int x2), some (.int x3), some (.int x4), some (.int x5), some (.int x6), some (.int x7), some (.int y0)]) d_Hole_waysInto_42 (Nat.le_of_ble_eq_true rfl) rfl <|
    am_iload d_Hole_waysInto_44 rfl <|
    am_iload_n d_Hole_waysInto_46 rfl (i := 1) rfl <|
    am_if_eq (tgt := 62) d_Hole_waysInto_47 (by decide) kt kf
theorem b_Hole_waysInto_50 {d : Nat} {x1 : Int32} {x2 : Int32} {x3 : Int32} {x4 : Int32} {x5 : Int32} {x6 : Int32} {x7 : Int32} {x8 : Int32} {y0 : Int32} {h : am_H} {Q : am_Q} (k : m_Hole_isWater d [.ref 1, .int x8] h (fun r hh => am_W (X_Hole_waysInto (d + 1)) 56 [some (.ref 1), some (.int x1), some (.int x2), some (.int x3), some (.int x4), some (.int x5), some (.int x6), some (.int x7), some (.int x8)] (r.toList ++ [.int y0]) hh Q)) : am_W (X_Hole_waysInto (d + 1)) 50 [some (.ref 1), some (.int x1), some (.int x2), some (.int x3), some (.int x4), some (.int x5), some (.int x6), some (.int x7), some (.int x8)] [.int y0] h Q :=
  am_aload_n d_Hole_waysInto_50 rfl (i := 0) rfl <|
    am_iload d_Hole_waysInto_51 rfl <|
    am_callV (vs := [.int x8]) (st := [.int y0]) (k := 1) (ci := 1) rfl d_Hole_waysInto_53 rfl rfl w_703 w_704 w_705 w_84 w_706 p_Hole_isWater (Nat.le_of_ble_eq_true rfl) (Nat.le_of_ble_eq_true rfl) rfl k
theorem b_Hole_waysInto_56 {d : Nat} {x1 : Int32} {x2 : Int32} {x3 : Int32} {x4 : Int32} {x5 : Int32} {x6 : Int32} {x7 : Int32} {x8 : Int32} {y1 : Bool} {y0 : Int32} {h : am_H} {Q : am_Q} (kt : (am_b y1) = 0 → am_W (X_Hole_waysInto d) 75 [some (.ref 1), some (.int x1), some (.int x2), some (.int x3), some (.int x4), some (.int x5), some (.int x6), some (.int x7), some (.int x8)] [.int y0] h Q) (kf : ¬ (am_b y1) = 0 → am_W (X_Hole_waysInto d) 59 [some (.ref 1), some (.int x1), some (.int x2), some (.int x3), some (.int x4), some (.int x5), some (.int x6), some (.int x7), some (.int x8)] [.int y0] h Q) : am_W (X_Hole_waysInto d) 56 [some (.ref 1), some (.int x1), some (.int x2), some (.int x3), some (.int x4), some (.int x5), some (.int x6), some (.int x7), some (.int x8)] [.int (am_b y1), .int y0] h Q :=
  am_if_eq (tgt := 75) d_Hole_waysInto_56 (by decide) kt kf
theorem b_Hole_waysInto_59 {d : Nat} {x1 : Int32} {x2 : Int32} {x3 : Int32} {x4 : Int32} {x5 : Int32} {x6 : Int32} {x7 : Int32} {x8 : Int32} {y0 : Int32} {h : am_H} {Q : am_Q} (k : am_W (X_Hole_waysInto d) 71 [some (.ref 1), some (.int x1), some (.int x2), some (.int x3), some (.int x4), some (.int x5), some (.int x6), some (.int x7), some (.int x8)] [.int y0] h Q) : am_W (X_Hole_waysInto d) 59 [some (.ref 1), some (.int x1), some (.int x2), some (.int x3), some (.int x4), some (.int x5), some (.int x6), some (.int x7), some (.int x8)] [.int y0] h Q :=
  am_goto (tgt := 71) d_Hole_waysInto_59 (by decide) k
theorem b_Hole_waysInto_62 {d : Nat} {x1 : Int32} {x2 : Int32} {x3 : Int32} {x4 : Int32} {x5 : Int32} {x6 : Int32} {x7 : Int32} {x8 : Int32} {y0 : Int32} {h : am_H} {Q : am_Q} (k : m_Hole_isGreen d [.ref 1, .int x8] h (fun r hh => am_W (X_Hole_waysInto (d + 1)) 68 [some (.ref 1), some (.int x1), some (.int x2), some (.int x3), some (.int x4), some (.int x5), some (.int x6), some (.int x7), some (.int x8)] (r.toList ++ [.int y0]) hh Q)) : am_W (X_Hole_waysInto (d + 1)) 62 [some (.ref 1), some (.int x1), some (.int x2), some (.int x3), some (.int x4), some (.int x5), some (.int x6), some (.int x7), some (.int x8)] [.int y0] h Q :=
  am_aload_n d_Hole_waysInto_62 rfl (i := 0) rfl <|
    am_iload d_Hole_waysInto_63 rfl <|
    am_callV (vs := [.int x8]) (st := [.int y0]) (k := 1) (ci := 1) rfl d_Hole_waysInto_65 rfl rfl w_674 w_675 w_676 w_84 w_677 p_Hole_isGreen (Nat.le_of_ble_eq_true rfl) (Nat.le_of_ble_eq_true rfl) rfl k
theorem b_Hole_waysInto_68 {d : Nat} {x1 : Int32} {x2 : Int32} {x3 : Int32} {x4 : Int32} {x5 : Int32} {x6 : Int32} {x7 : Int32} {x8 : Int32} {y1 : Bool} {y0 : Int32} {h : am_H} {Q : am_Q} (kt : (am_b y1) = 0 → am_W (X_Hole_waysInto d) 75 [some (.ref 1), some (.int x1), some (.int x2), some (.int x3), some (.int x4), some (.int x5), some (.int x6), some (.int x7), some (.int x8)] [.int y0] h Q) (kf : ¬ (am_b y1) = 0 → am_W (X_Hole_waysInto d) 71 [some (.ref 1), some (.int x1), some (.int x2), some (.int x3), some (.int x4), some (.int x5), some (.int x6), some (.int x7), some (.int x8)] [.int y0] h Q) : am_W (X_Hole_waysInto d) 68 [some (.ref 1), some (.int x1), some (.int x2), some (.int x3), some (.int x4), some (.int x5), some (.int x6), some (.int x7), some (.int x8)] [.int (am_b y1), .int y0] h Q :=
  am_if_eq (tgt := 75) d_Hole_waysInto_68 (by decide) kt kf
theorem b_Hole_waysInto_71 {d : Nat} {x1 : Int32} {x2 : Int32} {x3 : Int32} {x4 : Int32} {x5 : Int32} {x6 : Int32} {x7 : Int32} {x8 : Int32} {y0 : Int32} {h : am_H} {Q : am_Q} (k : am_W (X_Hole_waysInto d) 76 [some (.ref 1), some (.int x1), some (.int x2), some (.int x3), some (.int x4), some (.int x5), some (.int x6), some (.int x7), some (.int x8)] [.int 1, .int y0] h Q) : am_W (X_Hole_waysInto d) 71 [some (.ref 1), some (.int x1), some (.int x2), some (.int x3), some (.int x4), some (.int x5), some (.int x6), some (.int x7), some (.int x8)] [.int y0] h Q :=
  am_iconst (v := 1) d_Hole_waysInto_71 (by decide) <|
    am_goto (tgt := 76) d_Hole_waysInto_72 (by decide) k
theorem b_Hole_waysInto_75 {d : Nat} {x1 : Int32} {x2 : Int32} {x3 : Int32} {x4 : Int32} {x5 : Int32} {x6 : Int32} {x7 : Int32} {x8 : Int32} {y0 : Int32} {h : am_H} {Q : am_Q} (k : am_W (X_Hole_waysInto d) 76 [some (.ref 1), some (.int x1), some (.int x2), some (.int x3), some (.int x4), some (.int x5), some (.int x6), some (.int x7), some (.int x8)] [.int 0, .int y0] h Q) : am_W (X_Hole_waysInto d) 75 [some (.ref 1), some (.int x1), some (.int x2), some (.int x3), some (.int x4), some (.int x5), some (.int x6), some (.int x7), some (.int x8)] [.int y0] h Q :=
  am_iconst (v := 0) d_Hole_waysInto_75 (by decide) <|
    k
theorem b_Hole_waysInto_76 {d : Nat} {x1 : Int32} {x2 : Int32} {x3 : Int32} {x4 : Int32} {x5 : Int32} {x6 : Int32} {x7 : Int32} {x8 : Int32} {y1 : Int32} {y0 : Int32} {h : am_H} {Q : am_Q} (k : am_W (X_Hole_waysInto d) 27 [some (.ref 1), some (.int x1), some (.int x2), some (.int x3), some (.int x4), some (.int x5), some (.int (y0 + y1)), some (.int (x7 + 1)), some (.int x8)] [] h Q) : am_W (X_Hole_waysInto d) 76 [some (.ref 1), some (.int x1), some (.int x2), some (.int x3), some (.int x4), some (.int x5), some (.int x6), some (.int x7), some (.int x8)] [.int y1, .int y0] h Q :=
  am_iadd d_Hole_waysInto_76 <|
    am_istore (ls' := [some (.ref 1), some (.int x1), some (.int x2), some (.int x3), some (.int x4), some (.int x5), some (.int (y0 + y1)), some (.int x7), some (.int x8)]) d_Hole_waysInto_77 (Nat.le_of_ble_eq_true rfl) rfl <|
    am_iinc (v := (x7 + 1)) (ls' := [some (.ref 1), some (.int x1), some (.int x2), some (.int x3), some (.int x4), some (.int x5), some (.int (y0 + y1)), some (.int (x7 + 1)), some (.int x8)]) d_Hole_waysInto_79 rfl rfl (Nat.le_of_ble_eq_true rfl) rfl <|
    am_goto (tgt := 27) d_Hole_waysInto_82 (by decide) k
theorem b_Hole_waysInto_85 {d : Nat} {x1 : Int32} {x2 : Int32} {x3 : Int32} {x4 : Int32} {x5 : Int32} {x6 : Int32} {x7 : Int32} {h : am_H} {Q : am_Q} (q : Q (some (.int x6)) h) : am_W (X_Hole_waysInto d) 85 [some (.ref 1), some (.int x1), some (.int x2), some (.int x3), some (.int x4), some (.int x5), some (.int x6), some (.int x7), none] [] h Q :=
  am_iload d_Hole_waysInto_85 rfl <|
    am_iret rfl d_Hole_waysInto_87 q
theorem t_Hole_waysInto_85 {d : Nat} {x1 : Int32} {x2 : Int32} {x3 : Int32} {x4 : Int32} {x5 : Int32} {x6 : Int32} {x7 : Int32} {h : am_H} {Q : am_Q} {res : Int32} (e : f_Hole_waysInto_85 h x6 = some res) (q : Q (some (.int res)) h) : am_W (X_Hole_waysInto (d + 2)) 85 [some (.ref 1), some (.int x1), some (.int x2), some (.int x3), some (.int x4), some (.int x5), some (.int x6), some (.int x7), none] [] h Q :=
  b_Hole_waysInto_85 (d := (d + 2)) (q := (am_rIp (v := x6) e q))
theorem t_Hole_waysInto_76 {d : Nat} {k27 : Int32 → Int32 → Int32 → Int32 → Int32 → Option (Int32)} {x1 : Int32} {x2 : Int32} {x3 : Int32} {x4 : Int32} {x5 : Int32} {x6 : Int32} {x7 : Int32} {x8 : Int32} {y1 : Int32} {y0 : Int32} {h : am_H} {Q : am_Q} {res : Int32} (hk27 : ∀ (x1 : Int32) (x2 : Int32) (x3 : Int32) (x4 : Int32) (x5 : Int32) (x6 : Int32) (x7 : Int32), k27 x1 x4 x5 x6 x7 = some res → am_W (X_Hole_waysInto (d + 2)) 27 [some (.ref 1), some (.int x1), some (.int x2), some (.int x3), some (.int x4), some (.int x5), some (.int x6), some (.int x7), none] [] h Q) (e : f_Hole_waysInto_76 k27 h x1 x4 x5 x7 y1 y0 = some res) (q : Q (some (.int res)) h) : am_W (X_Hole_waysInto (d + 2)) 76 [some (.ref 1), some (.int x1), some (.int x2), some (.int x3), some (.int x4), some (.int x5), some (.int x6), some (.int x7), some (.int x8)] [.int y1, .int y0] h Q :=
  b_Hole_waysInto_76 (d := (d + 2)) (k := (am_wk2 (hk27 _ _ _ _ _ _ _ e) ⟨rfl, ⟨rfl, ⟨rfl, ⟨rfl, ⟨rfl, ⟨rfl, ⟨rfl, ⟨rfl, trivial⟩⟩⟩⟩⟩⟩⟩⟩))
theorem t_Hole_waysInto_75 {d : Nat} {k27 : Int32 → Int32 → Int32 → Int32 → Int32 → Option (Int32)} {x1 : Int32} {x2 : Int32} {x3 : Int32} {x4 : Int32} {x5 : Int32} {x6 : Int32} {x7 : Int32} {x8 : Int32} {y0 : Int32} {h : am_H} {Q : am_Q} {res : Int32} (hk27 : ∀ (x1 : Int32) (x2 : Int32) (x3 : Int32) (x4 : Int32) (x5 : Int32) (x6 : Int32) (x7 : Int32), k27 x1 x4 x5 x6 x7 = some res → am_W (X_Hole_waysInto (d + 2)) 27 [some (.ref 1), some (.int x1), some (.int x2), some (.int x3), some (.int x4), some (.int x5), some (.int x6), some (.int x7), none] [] h Q) (e : f_Hole_waysInto_75 k27 h x1 x4 x5 x7 y0 = some res) (q : Q (some (.int res)) h) : am_W (X_Hole_waysInto (d + 2)) 75 [some (.ref 1), some (.int x1), some (.int x2), some (.int x3), some (.int x4), some (.int x5), some (.int x6), some (.int x7), some (.int x8)] [.int y0] h Q :=
  b_Hole_waysInto_75 (d := (d + 2)) (k := (t_Hole_waysInto_76 hk27 e q))
theorem t_Hole_waysInto_71 {d : Nat} {k27 : Int32 → Int32 → Int32 → Int32 → Int32 → Option (Int32)} {x1 : Int32} {x2 : Int32} {x3 : Int32} {x4 : Int32} {x5 : Int32} {x6 : Int32} {x7 : Int32} {x8 : Int32} {y0 : Int32} {h : am_H} {Q : am_Q} {res : Int32} (hk27 : ∀ (x1 : Int32) (x2 : Int32) (x3 : Int32) (x4 : Int32) (x5 : Int32) (x6 : Int32) (x7 : Int32), k27 x1 x4 x5 x6 x7 = some res → am_W (X_Hole_waysInto (d + 2)) 27 [some (.ref 1), some (.int x1), some (.int x2), some (.int x3), some (.int x4), some (.int x5), some (.int x6), some (.int x7), none] [] h Q) (e : f_Hole_waysInto_71 k27 h x1 x4 x5 x7 y0 = some res) (q : Q (some (.int res)) h) : am_W (X_Hole_waysInto (d + 2)) 71 [some (.ref 1), some (.int x1), some (.int x2), some (.int x3), some (.int x4), some (.int x5), some (.int x6), some (.int x7), some (.int x8)] [.int y0] h Q :=
  b_Hole_waysInto_71 (d := (d + 2)) (k := (t_Hole_waysInto_76 hk27 e q))
theorem t_Hole_waysInto_68 {d : Nat} {k27 : Int32 → Int32 → Int32 → Int32 → Int32 → Option (Int32)} {x1 : Int32} {x2 : Int32} {x3 : Int32} {x4 : Int32} {x5 : Int32} {x6 : Int32} {x7 : Int32} {x8 : Int32} {y1 : Bool} {y0 : Int32} {h : am_H} {Q : am_Q} {res : Int32} (hk27 : ∀ (x1 : Int32) (x2 : Int32) (x3 : Int32) (x4 : Int32) (x5 : Int32) (x6 : Int32) (x7 : Int32), k27 x1 x4 x5 x6 x7 = some res → am_W (X_Hole_waysInto (d + 2)) 27 [some (.ref 1), some (.int x1), some (.int x2), some (.int x3), some (.int x4), some (.int x5), some (.int x6), some (.int x7), none] [] h Q) (e : f_Hole_waysInto_68 k27 h x1 x4 x5 x7 y1 y0 = some res) (q : Q (some (.int res)) h) : am_W (X_Hole_waysInto (d + 2)) 68 [some (.ref 1), some (.int x1), some (.int x2), some (.int x3), some (.int x4), some (.int x5), some (.int x6), some (.int x7), some (.int x8)] [.int (am_b y1), .int y0] h Q :=
  b_Hole_waysInto_68 (d := (d + 2)) (kt := fun c => (t_Hole_waysInto_75 hk27 (am_iff e (am_bz c)) q)) (kf := fun c => (t_Hole_waysInto_71 hk27 (am_ift e (am_bn c)) q))
theorem t_Hole_waysInto_62 {d : Nat} {k27 : Int32 → Int32 → Int32 → Int32 → Int32 → Option (Int32)} {x1 : Int32} {x2 : Int32} {x3 : Int32} {x4 : Int32} {x5 : Int32} {x6 : Int32} {x7 : Int32} {x8 : Int32} {y0 : Int32} {h : am_H} {Q : am_Q} {res : Int32} (hk27 : ∀ (x1 : Int32) (x2 : Int32) (x3 : Int32) (x4 : Int32) (x5 : Int32) (x6 : Int32) (x7 : Int32), k27 x1 x4 x5 x6 x7 = some res → am_W (X_Hole_waysInto (d + 2)) 27 [some (.ref 1), some (.int x1), some (.int x2), some (.int x3), some (.int x4), some (.int x5), some (.int x6), some (.int x7), none] [] h Q) (e : f_Hole_waysInto_62 k27 h x1 x4 x5 x7 x8 y0 = some res) (q : Q (some (.int res)) h) : am_W (X_Hole_waysInto (d + 2)) 62 [some (.ref 1), some (.int x1), some (.int x2), some (.int x3), some (.int x4), some (.int x5), some (.int x6), some (.int x7), some (.int x8)] [.int y0] h Q :=
  (am_bd e).elim fun p hp => b_Hole_waysInto_62 (d := (d + 1)) (k := c_Hole_isGreen (d := d) hp.1 (t_Hole_waysInto_68 hk27 hp.2 q))
theorem t_Hole_waysInto_59 {d : Nat} {k27 : Int32 → Int32 → Int32 → Int32 → Int32 → Option (Int32)} {x1 : Int32} {x2 : Int32} {x3 : Int32} {x4 : Int32} {x5 : Int32} {x6 : Int32} {x7 : Int32} {x8 : Int32} {y0 : Int32} {h : am_H} {Q : am_Q} {res : Int32} (hk27 : ∀ (x1 : Int32) (x2 : Int32) (x3 : Int32) (x4 : Int32) (x5 : Int32) (x6 : Int32) (x7 : Int32), k27 x1 x4 x5 x6 x7 = some res → am_W (X_Hole_waysInto (d + 2)) 27 [some (.ref 1), some (.int x1), some (.int x2), some (.int x3), some (.int x4), some (.int x5), some (.int x6), some (.int x7), none] [] h Q) (e : f_Hole_waysInto_59 k27 h x1 x4 x5 x7 y0 = some res) (q : Q (some (.int res)) h) : am_W (X_Hole_waysInto (d + 2)) 59 [some (.ref 1), some (.int x1), some (.int x2), some (.int x3), some (.int x4), some (.int x5), some (.int x6), some (.int x7), some (.int x8)] [.int y0] h Q :=
  b_Hole_waysInto_59 (d := (d + 2)) (k := (t_Hole_waysInto_71 hk27 e q))
theorem t_Hole_waysInto_56 {d : Nat} {k27 : Int32 → Int32 → Int32 → Int32 → Int32 → Option (Int32)} {x1 : Int32} {x2 : Int32} {x3 : Int32} {x4 : Int32} {x5 : Int32} {x6 : Int32} {x7 : Int32} {x8 : Int32} {y1 : Bool} {y0 : Int32} {h : am_H} {Q : am_Q} {res : Int32} (hk27 : ∀ (x1 : Int32) (x2 : Int32) (x3 : Int32) (x4 : Int32) (x5 : Int32) (x6 : Int32) (x7 : Int32), k27 x1 x4 x5 x6 x7 = some res → am_W (X_Hole_waysInto (d + 2)) 27 [some (.ref 1), some (.int x1), some (.int x2), some (.int x3), some (.int x4), some (.int x5), some (.int x6), some (.int x7), none] [] h Q) (e : f_Hole_waysInto_56 k27 h x1 x4 x5 x7 y1 y0 = some res) (q : Q (some (.int res)) h) : am_W (X_Hole_waysInto (d + 2)) 56 [some (.ref 1), some (.int x1), some (.int x2), some (.int x3), some (.int x4), some (.int x5), some (.int x6), some (.int x7), some (.int x8)] [.int (am_b y1), .int y0] h Q :=
  b_Hole_waysInto_56 (d := (d + 2)) (kt := fun c => (t_Hole_waysInto_75 hk27 (am_iff e (am_bz c)) q)) (kf := fun c => (t_Hole_waysInto_59 hk27 (am_ift e (am_bn c)) q))
theorem t_Hole_waysInto_50 {d : Nat} {k27 : Int32 → Int32 → Int32 → Int32 → Int32 → Option (Int32)} {x1 : Int32} {x2 : Int32} {x3 : Int32} {x4 : Int32} {x5 : Int32} {x6 : Int32} {x7 : Int32} {x8 : Int32} {y0 : Int32} {h : am_H} {Q : am_Q} {res : Int32} (hk27 : ∀ (x1 : Int32) (x2 : Int32) (x3 : Int32) (x4 : Int32) (x5 : Int32) (x6 : Int32) (x7 : Int32), k27 x1 x4 x5 x6 x7 = some res → am_W (X_Hole_waysInto (d + 2)) 27 [some (.ref 1), some (.int x1), some (.int x2), some (.int x3), some (.int x4), some (.int x5), some (.int x6), some (.int x7), none] [] h Q) (e : f_Hole_waysInto_50 k27 h x1 x4 x5 x7 x8 y0 = some res) (q : Q (some (.int res)) h) : am_W (X_Hole_waysInto (d + 2)) 50 [some (.ref 1), some (.int x1), some (.int x2), some (.int x3), some (.int x4), some (.int x5), some (.int x6), some (.int x7), some (.int x8)] [.int y0] h Q :=
  (am_bd e).elim fun p hp => b_Hole_waysInto_50 (d := (d + 1)) (k := c_Hole_isWater (d := d) hp.1 (t_Hole_waysInto_56 hk27 hp.2 q))
theorem t_Hole_waysInto_42 {d : Nat} {k27 : Int32 → Int32 → Int32 → Int32 → Int32 → Option (Int32)} {x1 : Int32} {x2 : Int32} {x3 : Int32} {x4 : Int32} {x5 : Int32} {x6 : Int32} {x7 : Int32} {y0 : Int32} {h : am_H} {Q : am_Q} {res : Int32} (hk27 : ∀ (x1 : Int32) (x2 : Int32) (x3 : Int32) (x4 : Int32) (x5 : Int32) (x6 : Int32) (x7 : Int32), k27 x1 x4 x5 x6 x7 = some res → am_W (X_Hole_waysInto (d + 2)) 27 [some (.ref 1), some (.int x1), some (.int x2), some (.int x3), some (.int x4), some (.int x5), some (.int x6), some (.int x7), none] [] h Q) (e : f_Hole_waysInto_42 k27 h x1 x4 x5 x6 x7 y0 = some res) (q : Q (some (.int res)) h) : am_W (X_Hole_waysInto (d + 2)) 42 [some (.ref 1), some (.int x1), some (.int x2), some (.int x3), some (.int x4), some (.int x5), some (.int x6), some (.int x7), none] [.int y0] h Q :=
  b_Hole_waysInto_42 (d := (d + 2)) (kt := fun c => (t_Hole_waysInto_62 hk27 (am_ift e c) q)) (kf := fun c => (t_Hole_waysInto_50 hk27 (am_ife e c) q))
theorem t_Hole_waysInto_34 {d : Nat} {k27 : Int32 → Int32 → Int32 → Int32 → Int32 → Option (Int32)} {x1 : Int32} {x2 : Int32} {x3 : Int32} {x4 : Int32} {x5 : Int32} {x6 : Int32} {x7 : Int32} {h : am_H} {Q : am_Q} {res : Int32} (hk27 : ∀ (x1 : Int32) (x2 : Int32) (x3 : Int32) (x4 : Int32) (x5 : Int32) (x6 : Int32) (x7 : Int32), k27 x1 x4 x5 x6 x7 = some res → am_W (X_Hole_waysInto (d + 2)) 27 [some (.ref 1), some (.int x1), some (.int x2), some (.int x3), some (.int x4), some (.int x5), some (.int x6), some (.int x7), none] [] h Q) (e : f_Hole_waysInto_34 k27 h x1 x4 x5 x6 x7 = some res) (q : Q (some (.int res)) h) : am_W (X_Hole_waysInto (d + 2)) 34 [some (.ref 1), some (.int x1), some (.int x2), some (.int x3), some (.int x4), some (.int x5), some (.int x6), some (.int x7), none] [] h Q :=
  b_Hole_waysInto_34 (d := (d + 1)) (k := c_Hole_held (d := d + 1) rfl (t_Hole_waysInto_42 hk27 e q))
theorem t_Hole_waysInto_27 {d : Nat} {k27 : Int32 → Int32 → Int32 → Int32 → Int32 → Option (Int32)} {x1 : Int32} {x2 : Int32} {x3 : Int32} {x4 : Int32} {x5 : Int32} {x6 : Int32} {x7 : Int32} {h : am_H} {Q : am_Q} {res : Int32} (hk27 : ∀ (x1 : Int32) (x2 : Int32) (x3 : Int32) (x4 : Int32) (x5 : Int32) (x6 : Int32) (x7 : Int32), k27 x1 x4 x5 x6 x7 = some res → am_W (X_Hole_waysInto (d + 2)) 27 [some (.ref 1), some (.int x1), some (.int x2), some (.int x3), some (.int x4), some (.int x5), some (.int x6), some (.int x7), none] [] h Q) (e : f_Hole_waysInto_27 k27 h x1 x4 x5 x6 x7 = some res) (q : Q (some (.int res)) h) : am_W (X_Hole_waysInto (d + 2)) 27 [some (.ref 1), some (.int x1), some (.int x2), some (.int x3), some (.int x4), some (.int x5), some (.int x6), some (.int x7), none] [] h Q :=
  b_Hole_waysInto_27 (d := (d + 2)) (kt := fun c => (t_Hole_waysInto_85 (am_ift e c) q)) (kf := fun c => (t_Hole_waysInto_34 hk27 (am_ife e c) q))
theorem t_Hole_waysInto_27_l {d : Nat} {h : am_H} {Q : am_Q} {res : Int32} (q : Q (some (.int res)) h) : ∀ (n : Nat) (x1 : Int32) (x2 : Int32) (x3 : Int32) (x4 : Int32) (x5 : Int32) (x6 : Int32) (x7 : Int32), f_Hole_waysInto_27_l h n x1 x4 x5 x6 x7 = some res → am_W (X_Hole_waysInto (d + 2)) 27 [some (.ref 1), some (.int x1), some (.int x2), some (.int x3), some (.int x4), some (.int x5), some (.int x6), some (.int x7), none] [] h Q := by
  intro n
  induction n with
  | zero => intro x1 x2 x3 x4 x5 x6 x7 e; exact am_nn e
  | succ n ih => intro x1 x2 x3 x4 x5 x6 x7 e; exact t_Hole_waysInto_27 (fun x1 x2 x3 x4 x5 x6 x7 e => ih x1 x2 x3 x4 x5 x6 x7  e) e q
theorem t_Hole_waysInto_17 {d : Nat} {x1 : Int32} {x2 : Int32} {x3 : Int32} {x4 : Int32} {y0 : Int32} {h : am_H} {Q : am_Q} {res : Int32} (e : f_Hole_waysInto_17 h x1 x4 y0 = some res) (q : Q (some (.int res)) h) : am_W (X_Hole_waysInto (d + 2)) 17 [some (.ref 1), some (.int x1), some (.int x2), some (.int x3), some (.int x4), none, none, none, none] [.int y0] h Q :=
  b_Hole_waysInto_17 (d := (d + 2)) (k := (t_Hole_waysInto_27_l q am_fu _ _ _ _ _ _ _ e))
theorem t_Hole_waysInto_10 {d : Nat} {x1 : Int32} {x2 : Int32} {x3 : Int32} {y0 : Int32} {h : am_H} {Q : am_Q} {res : Int32} (e : f_Hole_waysInto_10 h x1 x3 y0 = some res) (q : Q (some (.int res)) h) : am_W (X_Hole_waysInto (d + 2)) 10 [some (.ref 1), some (.int x1), some (.int x2), some (.int x3), none, none, none, none, none] [.int y0] h Q :=
  (am_bd e).elim fun p hp => b_Hole_waysInto_10 (d := (d + 1)) (k := c_Hole_spreadOf (d := d) hp.1 (t_Hole_waysInto_17 hp.2 q))
theorem t_Hole_waysInto_7 {d : Nat} {x1 : Int32} {x2 : Int32} {x3 : Int32} {y2 : Int32} {y1 : Int32} {h : am_H} {Q : am_Q} {res : Int32} (e : f_Hole_waysInto_7 h x1 x3 y2 y1 = some res) (q : Q (some (.int res)) h) : am_W (X_Hole_waysInto (d + 2)) 7 [some (.ref 1), some (.int x1), some (.int x2), some (.int x3), none, none, none, none, none] [.int y2, .int y1, .ref 1] h Q :=
  (am_bd e).elim fun p hp => b_Hole_waysInto_7 (d := (d + 1)) (k := c_Hole_aim (d := d + 1) hp.1 (t_Hole_waysInto_10 hp.2 q))
theorem t_Hole_waysInto_0 {d : Nat} {x1 : Int32} {x2 : Int32} {x3 : Int32} {h : am_H} {Q : am_Q} {res : Int32} (e : f_Hole_waysInto h x1 x2 x3 = some res) (q : Q (some (.int res)) h) : am_W (X_Hole_waysInto (d + 2)) 0 [some (.ref 1), some (.int x1), some (.int x2), some (.int x3), none, none, none, none, none] [] h Q :=
  (am_bd e).elim fun p hp => b_Hole_waysInto_0 (d := (d + 1)) (k := c_Hole_carryOf (d := d) hp.1 (t_Hole_waysInto_7 hp.2 q))
theorem c_Hole_waysInto {d : Nat} {x1 : Int32} {x2 : Int32} {x3 : Int32} {h : am_H} {Q : am_Q} {res : Int32} (e : f_Hole_waysInto h x1 x2 x3 = some res) (q : Q (some (.int res)) h) : m_Hole_waysInto (d + 2) [.ref 1, .int x1, .int x2, .int x3] h Q :=
  e_Hole_waysInto (t_Hole_waysInto_0 e q)
theorem d_Club_chance_0 : decode prog_1_method_10_code 0 = .ok (.aload_n 0, 1) := by decide +kernel
theorem d_Club_chance_1 : decode prog_1_method_10_code 1 = .ok (.iload_n 1, 1) := by decide +kernel
theorem d_Club_chance_2 : decode prog_1_method_10_code 2 = .ok (.invokevirtual 146, 3) := by decide +kernel
theorem d_Club_chance_5 : decode prog_1_method_10_code 5 = .ok (.ifCond .eq 19, 3) := by decide +kernel
theorem d_Club_chance_8 : decode prog_1_method_10_code 8 = .ok (.iload_n 2, 1) := by decide +kernel
theorem d_Club_chance_9 : decode prog_1_method_10_code 9 = .ok (.ifCond .lt 15, 3) := by decide +kernel
theorem d_Club_chance_12 : decode prog_1_method_10_code 12 = .ok (.iload_n 2, 1) := by decide +kernel
theorem d_Club_chance_13 : decode prog_1_method_10_code 13 = .ok (.iconst 1, 1) := by decide +kernel
theorem d_Club_chance_14 : decode prog_1_method_10_code 14 = .ok (.if_icmp .gt 10, 3) := by decide +kernel
theorem d_Club_chance_17 : decode prog_1_method_10_code 17 = .ok (.iload_n 3, 1) := by decide +kernel
theorem d_Club_chance_18 : decode prog_1_method_10_code 18 = .ok (.invokestatic 152, 3) := by decide +kernel
theorem d_Club_chance_21 : decode prog_1_method_10_code 21 = .ok (.ifCond .ne 7, 3) := by decide +kernel
theorem d_Club_chance_24 : decode prog_1_method_10_code 24 = .ok (.ldc2_w 155, 3) := by decide +kernel
theorem d_Club_chance_27 : decode prog_1_method_10_code 27 = .ok (.lreturn, 1) := by decide +kernel
theorem d_Club_chance_28 : decode prog_1_method_10_code 28 = .ok (.iload_n 1, 1) := by decide +kernel
theorem d_Club_chance_29 : decode prog_1_method_10_code 29 = .ok (.bipush 10, 2) := by decide +kernel
theorem d_Club_chance_31 : decode prog_1_method_10_code 31 = .ok (.irem, 1) := by decide +kernel
theorem d_Club_chance_32 : decode prog_1_method_10_code 32 = .ok (.istore 4, 2) := by decide +kernel
theorem d_Club_chance_34 : decode prog_1_method_10_code 34 = .ok (.aload_n 0, 1) := by decide +kernel
theorem d_Club_chance_35 : decode prog_1_method_10_code 35 = .ok (.getfield 12, 3) := by decide +kernel
theorem d_Club_chance_38 : decode prog_1_method_10_code 38 = .ok (.iload_n 2, 1) := by decide +kernel
theorem d_Club_chance_39 : decode prog_1_method_10_code 39 = .ok (.ifCond .ne 7, 3) := by decide +kernel
theorem d_Club_chance_42 : decode prog_1_method_10_code 42 = .ok (.iconst 1, 1) := by decide +kernel
theorem d_Club_chance_43 : decode prog_1_method_10_code 43 = .ok (.goto 4, 3) := by decide +kernel
theorem d_Club_chance_46 : decode prog_1_method_10_code 46 = .ok (.iconst 0, 1) := by decide +kernel
theorem d_Club_chance_47 : decode prog_1_method_10_code 47 = .ok (.iload_n 1, 1) := by decide +kernel
theorem d_Club_chance_48 : decode prog_1_method_10_code 48 = .ok (.bipush 10, 2) := by decide +kernel
theorem d_Club_chance_50 : decode prog_1_method_10_code 50 = .ok (.idiv, 1) := by decide +kernel
theorem d_Club_chance_51 : decode prog_1_method_10_code 51 = .ok (.iload 4, 2) := by decide +kernel
theorem d_Club_chance_53 : decode prog_1_method_10_code 53 = .ok (.invokevirtual 174, 3) := by decide +kernel
theorem d_Club_chance_56 : decode prog_1_method_10_code 56 = .ok (.i2l, 1) := by decide +kernel
theorem d_Club_chance_57 : decode prog_1_method_10_code 57 = .ok (.aload_n 0, 1) := by decide +kernel
theorem d_Club_chance_58 : decode prog_1_method_10_code 58 = .ok (.getfield 12, 3) := by decide +kernel
theorem d_Club_chance_61 : decode prog_1_method_10_code 61 = .ok (.iload 4, 2) := by decide +kernel
theorem d_Club_chance_63 : decode prog_1_method_10_code 63 = .ok (.invokevirtual 167, 3) := by decide +kernel
theorem d_Club_chance_66 : decode prog_1_method_10_code 66 = .ok (.i2l, 1) := by decide +kernel
theorem d_Club_chance_67 : decode prog_1_method_10_code 67 = .ok (.iload_n 3, 1) := by decide +kernel
theorem d_Club_chance_68 : decode prog_1_method_10_code 68 = .ok (.invokestatic 170, 3) := by decide +kernel
theorem d_Club_chance_71 : decode prog_1_method_10_code 71 = .ok (.lreturn, 1) := by decide +kernel
theorem b_Club_chance_0 {d : Nat} {x1 : Int32} {x2 : Int32} {x3 : Int32} {h : am_H} {Q : am_Q} (k : m_Club_isShot d [.ref 0, .int x1] h (fun r hh => am_W (X_Club_chance (d + 1)) 5 [some (.ref 0), some (.int x1), some (.int x2), some (.int x3), none] (r.toList ++ []) hh Q)) : am_W (X_Club_chance (d + 1)) 0 [some (.ref 0), some (.int x1), some (.int x2), some (.int x3), none] [] h Q :=
  am_aload_n d_Club_chance_0 rfl (i := 0) rfl <|
    am_iload_n d_Club_chance_1 rfl (i := 1) rfl <|
    am_callV (vs := [.int x1]) (st := []) (k := 0) (ci := 0) rfl d_Club_chance_2 rfl rfl w_666 w_668 w_13 w_83 w_669 p_Club_isShot (Nat.le_of_ble_eq_true rfl) (Nat.le_of_ble_eq_true rfl) rfl k
theorem b_Club_chance_5 {d : Nat} {x1 : Int32} {x2 : Int32} {x3 : Int32} {y0 : Bool} {h : am_H} {Q : am_Q} (kt : (am_b y0) = 0 → am_W (X_Club_chance d) 24 [some (.ref 0), some (.int x1), some (.int x2), some (.int x3), none] [] h Q) (kf : ¬ (am_b y0) = 0 → am_W (X_Club_chance d) 8 [some (.ref 0), some (.int x1), some (.int x2), some (.int x3), none] [] h Q) : am_W (X_Club_chance d) 5 [some (.ref 0), some (.int x1), some (.int x2), some (.int x3), none] [.int (am_b y0)] h Q :=
  am_if_eq (tgt := 24) d_Club_chance_5 (by decide) kt kf
theorem b_Club_chance_8 {d : Nat} {x1 : Int32} {x2 : Int32} {x3 : Int32} {h : am_H} {Q : am_Q} (kt : x2 < 0 → am_W (X_Club_chance d) 24 [some (.ref 0), some (.int x1), some (.int x2), some (.int x3), none] [] h Q) (kf : ¬ x2 < 0 → am_W (X_Club_chance d) 12 [some (.ref 0), some (.int x1), some (.int x2), some (.int x3), none] [] h Q) : am_W (X_Club_chance d) 8 [some (.ref 0), some (.int x1), some (.int x2), some (.int x3), none] [] h Q :=
  am_iload_n d_Club_chance_8 rfl (i := 2) rfl <|
    am_if_lt (tgt := 24) d_Club_chance_9 (by decide) kt kf
theorem b_Club_chance_12 {d : Nat} {x1 : Int32} {x2 : Int32} {x3 : Int32} {h : am_H} {Q : am_Q} (kt : 1 < x2 → am_W (X_Club_chance d) 24 [some (.ref 0), some (.int x1), some (.int x2), some (.int x3), none] [] h Q) (kf : ¬ 1 < x2 → am_W (X_Club_chance d) 17 [some (.ref 0), some (.int x1), some (.int x2), some (.int x3), none] [] h Q) : am_W (X_Club_chance d) 12 [some (.ref 0), some (.int x1), some (.int x2), some (.int x3), none] [] h Q :=
  am_iload_n d_Club_chance_12 rfl (i := 2) rfl <|
    am_iconst (v := 1) d_Club_chance_13 (by decide) <|
    am_icmp_gt (tgt := 24) d_Club_chance_14 (by decide) kt kf
theorem b_Club_chance_17 {d : Nat} {x1 : Int32} {x2 : Int32} {x3 : Int32} {h : am_H} {Q : am_Q} (k : m_Club_isFractionPart d [.int x3] h (fun r hh => am_W (X_Club_chance (d + 1)) 21 [some (.ref 0), some (.int x1), some (.int x2), some (.int x3), none] (r.toList ++ []) hh Q)) : am_W (X_Club_chance (d + 1)) 17 [some (.ref 0), some (.int x1), some (.int x2), some (.int x3), none] [] h Q :=
  am_iload_n d_Club_chance_17 rfl (i := 3) rfl <|
    am_callS (vs := [.int x3]) (st := []) rfl d_Club_chance_18 w_680 w_681 w_83 w_682 p_Club_isFractionPart (Nat.le_of_ble_eq_true rfl) (Nat.le_of_ble_eq_true rfl) rfl k
theorem b_Club_chance_21 {d : Nat} {x1 : Int32} {x2 : Int32} {x3 : Int32} {y0 : Bool} {h : am_H} {Q : am_Q} (kt : ¬ (am_b y0) = 0 → am_W (X_Club_chance d) 28 [some (.ref 0), some (.int x1), some (.int x2), some (.int x3), none] [] h Q) (kf : (am_b y0) = 0 → am_W (X_Club_chance d) 24 [some (.ref 0), some (.int x1), some (.int x2), some (.int x3), none] [] h Q) : am_W (X_Club_chance d) 21 [some (.ref 0), some (.int x1), some (.int x2), some (.int x3), none] [.int (am_b y0)] h Q :=
  am_if_ne (tgt := 28) d_Club_chance_21 (by decide) kt kf
theorem b_Club_chance_24 {d : Nat} {x1 : Int32} {x2 : Int32} {x3 : Int32} {h : am_H} {Q : am_Q} (q : Q (some (.long (-9223372036854775808))) h) : am_W (X_Club_chance d) 24 [some (.ref 0), some (.int x1), some (.int x2), some (.int x3), none] [] h Q :=
  am_ldc2 (v := (-9223372036854775808)) d_Club_chance_24 w_683 <|
    am_lret rfl d_Club_chance_27 q
theorem b_Club_chance_28 {d : Nat} {x1 : Int32} {x2 : Int32} {x3 : Int32} {h : am_H} {Q : am_Q} (kt : ¬ x2 = 0 → am_W (X_Club_chance d) 46 [some (.ref 0), some (.int x1), some (.int x2), some (.int x3), some (.int (x1 - x1 / 10 * 10))] [.ref 1] h Q) (kf : x2 = 0 → am_W (X_Club_chance d) 42 [some (.ref 0), some (.int x1), some (.int x2), some (.int x3), some (.int (x1 - x1 / 10 * 10))] [.ref 1] h Q) : am_W (X_Club_chance d) 28 [some (.ref 0), some (.int x1), some (.int x2), some (.int x3), none] [] h Q :=
  am_iload_n d_Club_chance_28 rfl (i := 1) rfl <|
    am_bipush (v := 10) d_Club_chance_29 (by decide) <|
    am_irem d_Club_chance_31 (by decide) <|
    am_istore (ls' := [some (.ref 0), some (.int x1), some (.int x2), some (.int x3), some (.int (x1 - x1 / 10 * 10))]) d_Club_chance_32 (Nat.le_of_ble_eq_true rfl) rfl <|
    am_aload_n d_Club_chance_34 rfl (i := 0) rfl <|
    am_getR (ci := 0) (i := 0) rfl rfl rfl (Nat.le_of_ble_eq_true rfl) w_362 d_Club_chance_35 <|
    am_iload_n d_Club_chance_38 rfl (i := 2) rfl <|
    am_if_ne (tgt := 46) d_Club_chance_39 (by decide) kt kf
theorem b_Club_chance_42 {d : Nat} {x1 : Int32} {x2 : Int32} {x3 : Int32} {x4 : Int32} {h : am_H} {Q : am_Q} (k : am_W (X_Club_chance d) 47 [some (.ref 0), some (.int x1), some (.int x2), some (.int x3), some (.int x4)] [.int 1, .ref 1] h Q) : am_W (X_Club_chance d) 42 [some (.ref 0), some (.int x1), some (.int x2), some (.int x3), some (.int x4)] [.ref 1] h Q :=
  am_iconst (v := 1) d_Club_chance_42 (by decide) <|
    am_goto (tgt := 47) d_Club_chance_43 (by decide) k
theorem b_Club_chance_46 {d : Nat} {x1 : Int32} {x2 : Int32} {x3 : Int32} {x4 : Int32} {h : am_H} {Q : am_Q} (k : am_W (X_Club_chance d) 47 [some (.ref 0), some (.int x1), some (.int x2), some (.int x3), some (.int x4)] [.int 0, .ref 1] h Q) : am_W (X_Club_chance d) 46 [some (.ref 0), some (.int x1), some (.int x2), some (.int x3), some (.int x4)] [.ref 1] h Q :=
  am_iconst (v := 0) d_Club_chance_46 (by decide) <|
    k
theorem b_Club_chance_47 {d : Nat} {x1 : Int32} {x2 : Int32} {x3 : Int32} {x4 : Int32} {y1 : Int32} {h : am_H} {Q : am_Q} (k : m_Hole_waysInto d [.ref 1, .int y1, .int (x1 / 10), .int x4] h (fun r hh => am_W (X_Club_chance (d + 1)) 56 [some (.ref 0), some (.int x1), some (.int x2), some (.int x3), some (.int x4)] (r.toList ++ []) hh Q)) : am_W (X_Club_chance (d + 1)) 47 [some (.ref 0), some (.int x1), some (.int x2), some (.int x3), some (.int x4)] [.int y1, .ref 1] h Q :=
  am_iload_n d_Club_chance_47 rfl (i := 1) rfl <|
    am_bipush (v := 10) d_Club_chance_48 (by decide) <|
    am_idiv d_Club_chance_50 (by decide) <|
    am_iload d_Club_chance_51 rfl <|
    am_callV (vs := [.int y1, .int (x1 / 10), .int x4]) (st := []) (k := 1) (ci := 1) rfl d_Club_chance_53 rfl rfl w_725 w_726 w_727 w_84 w_728 p_Hole_waysInto (Nat.le_of_ble_eq_true rfl) (Nat.le_of_ble_eq_true rfl) rfl k
theorem b_Club_chance_56 {d : Nat} {x1 : Int32} {x2 : Int32} {x3 : Int32} {x4 : Int32} {y0 : Int32} {h : am_H} {Q : am_Q} (k : m_Hole_waysOf d [.ref 1, .int x4] h (fun r hh => am_W (X_Club_chance (d + 1)) 66 [some (.ref 0), some (.int x1), some (.int x2), some (.int x3), some (.int x4)] (r.toList ++ [.long y0.toInt64]) hh Q)) : am_W (X_Club_chance (d + 1)) 56 [some (.ref 0), some (.int x1), some (.int x2), some (.int x3), some (.int x4)] [.int y0] h Q :=
  am_i2l d_Club_chance_56 <|
    am_aload_n d_Club_chance_57 rfl (i := 0) rfl <|
    am_getR (ci := 0) (i := 0) rfl rfl rfl (Nat.le_of_ble_eq_true rfl) w_362 d_Club_chance_58 <|
    am_iload d_Club_chance_61 rfl <|
    am_callV (vs := [.int x4]) (st := [.long y0.toInt64]) (k := 1) (ci := 1) rfl d_Club_chance_63 rfl rfl w_707 w_708 w_709 w_84 w_710 p_Hole_waysOf (Nat.le_of_ble_eq_true rfl) (Nat.le_of_ble_eq_true rfl) rfl k
theorem b_Club_chance_66 {d : Nat} {x1 : Int32} {x2 : Int32} {x3 : Int32} {x4 : Int32} {y1 : Int32} {y0 : Int64} {h : am_H} {Q : am_Q} (k : m_Club_partOf d [.long y0, .long y1.toInt64, .int x3] h (fun r hh => am_W (X_Club_chance (d + 1)) 71 [some (.ref 0), some (.int x1), some (.int x2), some (.int x3), some (.int x4)] (r.toList ++ []) hh Q)) : am_W (X_Club_chance (d + 1)) 66 [some (.ref 0), some (.int x1), some (.int x2), some (.int x3), some (.int x4)] [.int y1, .long y0] h Q :=
  am_i2l d_Club_chance_66 <|
    am_iload_n d_Club_chance_67 rfl (i := 3) rfl <|
    am_callS (vs := [.long y0, .long y1.toInt64, .int x3]) (st := []) rfl d_Club_chance_68 w_712 w_713 w_83 w_714 p_Club_partOf (Nat.le_of_ble_eq_true rfl) (Nat.le_of_ble_eq_true rfl) rfl k
theorem b_Club_chance_71 {d : Nat} {x1 : Int32} {x2 : Int32} {x3 : Int32} {x4 : Int32} {y0 : Int64} {h : am_H} {Q : am_Q} (q : Q (some (.long y0)) h) : am_W (X_Club_chance d) 71 [some (.ref 0), some (.int x1), some (.int x2), some (.int x3), some (.int x4)] [.long y0] h Q :=
  am_lret rfl d_Club_chance_71 q
theorem t_Club_chance_24 {d : Nat} {x1 : Int32} {x2 : Int32} {x3 : Int32} {h : am_H} {Q : am_Q} {res : Int64} (e : f_Club_chance_24 h = some res) (q : Q (some (.long res)) h) : am_W (X_Club_chance (d + 4)) 24 [some (.ref 0), some (.int x1), some (.int x2), some (.int x3), none] [] h Q :=
  b_Club_chance_24 (d := (d + 4)) (q := (am_rJp (v := (-9223372036854775808)) e q))
theorem t_Club_chance_71 {d : Nat} {x1 : Int32} {x2 : Int32} {x3 : Int32} {x4 : Int32} {y0 : Int64} {h : am_H} {Q : am_Q} {res : Int64} (e : f_Club_chance_71 h y0 = some res) (q : Q (some (.long res)) h) : am_W (X_Club_chance (d + 4)) 71 [some (.ref 0), some (.int x1), some (.int x2), some (.int x3), some (.int x4)] [.long y0] h Q :=
  b_Club_chance_71 (d := (d + 4)) (q := (am_rJp (v := y0) e q))
theorem t_Club_chance_66 {d : Nat} {x1 : Int32} {x2 : Int32} {x3 : Int32} {x4 : Int32} {y1 : Int32} {y0 : Int64} {h : am_H} {Q : am_Q} {res : Int64} (e : f_Club_chance_66 h x3 y1 y0 = some res) (q : Q (some (.long res)) h) : am_W (X_Club_chance (d + 4)) 66 [some (.ref 0), some (.int x1), some (.int x2), some (.int x3), some (.int x4)] [.int y1, .long y0] h Q :=
  (am_bd e).elim fun p hp => b_Club_chance_66 (d := (d + 3)) (k := c_Club_partOf (d := d + 2) hp.1 (t_Club_chance_71 hp.2 q))
theorem t_Club_chance_56 {d : Nat} {x1 : Int32} {x2 : Int32} {x3 : Int32} {x4 : Int32} {y0 : Int32} {h : am_H} {Q : am_Q} {res : Int64} (e : f_Club_chance_56 h x3 x4 y0 = some res) (q : Q (some (.long res)) h) : am_W (X_Club_chance (d + 4)) 56 [some (.ref 0), some (.int x1), some (.int x2), some (.int x3), some (.int x4)] [.int y0] h Q :=
  (am_bd e).elim fun p hp => b_Club_chance_56 (d := (d + 3)) (k := c_Hole_waysOf (d := d + 1) hp.1 (t_Club_chance_66 hp.2 q))
theorem t_Club_chance_47 {d : Nat} {x1 : Int32} {x2 : Int32} {x3 : Int32} {x4 : Int32} {y1 : Int32} {h : am_H} {Q : am_Q} {res : Int64} (e : f_Club_chance_47 h x1 x3 x4 y1 = some res) (q : Q (some (.long res)) h) : am_W (X_Club_chance (d + 4)) 47 [some (.ref 0), some (.int x1), some (.int x2), some (.int x3), some (.int x4)] [.int y1, .ref 1] h Q :=
  (am_bd e).elim fun p hp => b_Club_chance_47 (d := (d + 3)) (k := c_Hole_waysInto (d := d + 1) hp.1 (t_Club_chance_56 hp.2 q))
theorem t_Club_chance_46 {d : Nat} {x1 : Int32} {x2 : Int32} {x3 : Int32} {x4 : Int32} {h : am_H} {Q : am_Q} {res : Int64} (e : f_Club_chance_46 h x1 x3 x4 = some res) (q : Q (some (.long res)) h) : am_W (X_Club_chance (d + 4)) 46 [some (.ref 0), some (.int x1), some (.int x2), some (.int x3), some (.int x4)] [.ref 1] h Q :=
  b_Club_chance_46 (d := (d + 4)) (k := (t_Club_chance_47 e q))
theorem t_Club_chance_42 {d : Nat} {x1 : Int32} {x2 : Int32} {x3 : Int32} {x4 : Int32} {h : am_H} {Q : am_Q} {res : Int64} (e : f_Club_chance_42 h x1 x3 x4 = some res) (q : Q (some (.long res)) h) : am_W (X_Club_chance (d + 4)) 42 [some (.ref 0), some (.int x1), some (.int x2), some (.int x3), some (.int x4)] [.ref 1] h Q :=
  b_Club_chance_42 (d := (d + 4)) (k := (t_Club_chance_47 e q))
theorem t_Club_chance_28 {d : Nat} {x1 : Int32} {x2 : Int32} {x3 : Int32} {h : am_H} {Q : am_Q} {res : Int64} (e : f_Club_chance_28 h x1 x2 x3 = some res) (q : Q (some (.long res)) h) : am_W (X_Club_chance (d + 4)) 28 [some (.ref 0), some (.int x1), some (.int x2), some (.int x3), none] [] h Q :=
  b_Club_chance_28 (d := (d + 4)) (kt := fun c => (t_Club_chance_46 (am_ife e c) q)) (kf := fun c => (t_Club_chance_42 (am_ift e c) q))
theorem t_Club_chance_21 {d : Nat} {x1 : Int32} {x2 : Int32} {x3 : Int32} {y0 : Bool} {h : am_H} {Q : am_Q} {res : Int64} (e : f_Club_chance_21 h x1 x2 x3 y0 = some res) (q : Q (some (.long res)) h) : am_W (X_Club_chance (d + 4)) 21 [some (.ref 0), some (.int x1), some (.int x2), some (.int x3), none] [.int (am_b y0)] h Q :=
  b_Club_chance_21 (d := (d + 4)) (kt := fun c => (t_Club_chance_28 (am_ift e (am_bn c)) q)) (kf := fun c => (t_Club_chance_24 (am_iff e (am_bz c)) q))
theorem t_Club_chance_17 {d : Nat} {x1 : Int32} {x2 : Int32} {x3 : Int32} {h : am_H} {Q : am_Q} {res : Int64} (e : f_Club_chance_17 h x1 x2 x3 = some res) (q : Q (some (.long res)) h) : am_W (X_Club_chance (d + 4)) 17 [some (.ref 0), some (.int x1), some (.int x2), some (.int x3), none] [] h Q :=
  b_Club_chance_17 (d := (d + 3)) (k := c_Club_isFractionPart (d := d + 3) rfl (t_Club_chance_21 e q))
theorem t_Club_chance_12 {d : Nat} {x1 : Int32} {x2 : Int32} {x3 : Int32} {h : am_H} {Q : am_Q} {res : Int64} (e : f_Club_chance_12 h x1 x2 x3 = some res) (q : Q (some (.long res)) h) : am_W (X_Club_chance (d + 4)) 12 [some (.ref 0), some (.int x1), some (.int x2), some (.int x3), none] [] h Q :=
  b_Club_chance_12 (d := (d + 4)) (kt := fun c => (t_Club_chance_24 (am_ift e c) q)) (kf := fun c => (t_Club_chance_17 (am_ife e c) q))
theorem t_Club_chance_8 {d : Nat} {x1 : Int32} {x2 : Int32} {x3 : Int32} {h : am_H} {Q : am_Q} {res : Int64} (e : f_Club_chance_8 h x1 x2 x3 = some res) (q : Q (some (.long res)) h) : am_W (X_Club_chance (d + 4)) 8 [some (.ref 0), some (.int x1), some (.int x2), some (.int x3), none] [] h Q :=
  b_Club_chance_8 (d := (d + 4)) (kt := fun c => (t_Club_chance_24 (am_ift e c) q)) (kf := fun c => (t_Club_chance_12 (am_ife e c) q))
theorem t_Club_chance_5 {d : Nat} {x1 : Int32} {x2 : Int32} {x3 : Int32} {y0 : Bool} {h : am_H} {Q : am_Q} {res : Int64} (e : f_Club_chance_5 h x1 x2 x3 y0 = some res) (q : Q (some (.long res)) h) : am_W (X_Club_chance (d + 4)) 5 [some (.ref 0), some (.int x1), some (.int x2), some (.int x3), none] [.int (am_b y0)] h Q :=
  b_Club_chance_5 (d := (d + 4)) (kt := fun c => (t_Club_chance_24 (am_iff e (am_bz c)) q)) (kf := fun c => (t_Club_chance_8 (am_ift e (am_bn c)) q))
theorem t_Club_chance_0 {d : Nat} {x1 : Int32} {x2 : Int32} {x3 : Int32} {h : am_H} {Q : am_Q} {res : Int64} (e : f_Club_chance h x1 x2 x3 = some res) (q : Q (some (.long res)) h) : am_W (X_Club_chance (d + 4)) 0 [some (.ref 0), some (.int x1), some (.int x2), some (.int x3), none] [] h Q :=
  (am_bd e).elim fun p hp => b_Club_chance_0 (d := (d + 3)) (k := c_Club_isShot (d := d) hp.1 (t_Club_chance_5 hp.2 q))
theorem c_Club_chance {d : Nat} {x1 : Int32} {x2 : Int32} {x3 : Int32} {h : am_H} {Q : am_Q} {res : Int64} (e : f_Club_chance h x1 x2 x3 = some res) (q : Q (some (.long res)) h) : m_Club_chance (d + 4) [.ref 0, .int x1, .int x2, .int x3] h Q :=
  e_Club_chance (t_Club_chance_0 e q)
theorem d_Hole_hasNoClubs_0 : decode prog_5_method_10_code 0 = .ok (.aload_n 0, 1) := by decide +kernel
theorem d_Hole_hasNoClubs_1 : decode prog_5_method_10_code 1 = .ok (.getfield 24, 3) := by decide +kernel
theorem d_Hole_hasNoClubs_4 : decode prog_5_method_10_code 4 = .ok (.ifCond .ne 7, 3) := by decide +kernel
theorem d_Hole_hasNoClubs_7 : decode prog_5_method_10_code 7 = .ok (.iconst 1, 1) := by decide +kernel
theorem d_Hole_hasNoClubs_8 : decode prog_5_method_10_code 8 = .ok (.goto 4, 3) := by decide +kernel
theorem d_Hole_hasNoClubs_11 : decode prog_5_method_10_code 11 = .ok (.iconst 0, 1) := by decide +kernel
theorem d_Hole_hasNoClubs_12 : decode prog_5_method_10_code 12 = .ok (.ireturn, 1) := by decide +kernel
theorem b_Hole_hasNoClubs_0 {d : Nat} {h : am_H} {Q : am_Q} (kt : ¬ (h.1 1 4) = 0 → am_W (X_Hole_hasNoClubs d) 11 [some (.ref 1)] [] h Q) (kf : (h.1 1 4) = 0 → am_W (X_Hole_hasNoClubs d) 7 [some (.ref 1)] [] h Q) : am_W (X_Hole_hasNoClubs d) 0 [some (.ref 1)] [] h Q :=
  am_aload_n d_Hole_hasNoClubs_0 rfl (i := 0) rfl <|
    am_getI (ci := 1) (i := 4) rfl rfl rfl (Nat.le_of_ble_eq_true rfl) w_126 d_Hole_hasNoClubs_1 <|
    am_if_ne (tgt := 11) d_Hole_hasNoClubs_4 (by decide) kt kf
theorem b_Hole_hasNoClubs_7 {d : Nat} {h : am_H} {Q : am_Q} (q : Q (some (.int 1)) h) : am_W (X_Hole_hasNoClubs d) 7 [some (.ref 1)] [] h Q :=
  am_iconst (v := 1) d_Hole_hasNoClubs_7 (by decide) <|
    am_goto (tgt := 12) d_Hole_hasNoClubs_8 (by decide) <|
    am_zret (ty := .boolean) rfl (by decide) d_Hole_hasNoClubs_12 q
theorem b_Hole_hasNoClubs_11 {d : Nat} {h : am_H} {Q : am_Q} (q : Q (some (.int 0)) h) : am_W (X_Hole_hasNoClubs d) 11 [some (.ref 1)] [] h Q :=
  am_iconst (v := 0) d_Hole_hasNoClubs_11 (by decide) <|
    am_zret (ty := .boolean) rfl (by decide) d_Hole_hasNoClubs_12 q
theorem t_Hole_hasNoClubs_11 {d : Nat} {h : am_H} {Q : am_Q} {res : Bool} (e : f_Hole_hasNoClubs_11 h = res) (q : Q (some (.int (am_b res))) h) : am_W (X_Hole_hasNoClubs d) 11 [some (.ref 1)] [] h Q :=
  b_Hole_hasNoClubs_11 (d := d) (q := (am_rZt (v := false) e q))
theorem t_Hole_hasNoClubs_7 {d : Nat} {h : am_H} {Q : am_Q} {res : Bool} (e : f_Hole_hasNoClubs_7 h = res) (q : Q (some (.int (am_b res))) h) : am_W (X_Hole_hasNoClubs d) 7 [some (.ref 1)] [] h Q :=
  b_Hole_hasNoClubs_7 (d := d) (q := (am_rZt (v := true) e q))
theorem t_Hole_hasNoClubs_0 {d : Nat} {h : am_H} {Q : am_Q} {res : Bool} (e : f_Hole_hasNoClubs h = res) (q : Q (some (.int (am_b res))) h) : am_W (X_Hole_hasNoClubs d) 0 [some (.ref 1)] [] h Q :=
  b_Hole_hasNoClubs_0 (d := d) (kt := fun c => (t_Hole_hasNoClubs_11 (am_ife e c) q)) (kf := fun c => (t_Hole_hasNoClubs_7 (am_ift e c) q))
theorem c_Hole_hasNoClubs {d : Nat} {h : am_H} {Q : am_Q} {res : Bool} (e : f_Hole_hasNoClubs h = res) (q : Q (some (.int (am_b res))) h) : m_Hole_hasNoClubs d [.ref 1] h Q :=
  e_Hole_hasNoClubs (t_Hole_hasNoClubs_0 e q)
theorem d_Hole_clubsHeld_0 : decode prog_5_method_9_code 0 = .ok (.aload_n 0, 1) := by decide +kernel
theorem d_Hole_clubsHeld_1 : decode prog_5_method_9_code 1 = .ok (.getfield 24, 3) := by decide +kernel
theorem d_Hole_clubsHeld_4 : decode prog_5_method_9_code 4 = .ok (.ireturn, 1) := by decide +kernel
theorem b_Hole_clubsHeld_0 {d : Nat} {h : am_H} {Q : am_Q} (q : Q (some (.int (h.1 1 4))) h) : am_W (X_Hole_clubsHeld d) 0 [some (.ref 1)] [] h Q :=
  am_aload_n d_Hole_clubsHeld_0 rfl (i := 0) rfl <|
    am_getI (ci := 1) (i := 4) rfl rfl rfl (Nat.le_of_ble_eq_true rfl) w_126 d_Hole_clubsHeld_1 <|
    am_iret rfl d_Hole_clubsHeld_4 q
theorem t_Hole_clubsHeld_0 {d : Nat} {h : am_H} {Q : am_Q} {res : Int32} (e : f_Hole_clubsHeld h = res) (q : Q (some (.int res)) h) : am_W (X_Hole_clubsHeld d) 0 [some (.ref 1)] [] h Q :=
  b_Hole_clubsHeld_0 (d := d) (q := (am_rIt (v := (h.1 1 4)) e q))
theorem c_Hole_clubsHeld {d : Nat} {h : am_H} {Q : am_Q} {res : Int32} (e : f_Hole_clubsHeld h = res) (q : Q (some (.int res)) h) : m_Hole_clubsHeld d [.ref 1] h Q :=
  e_Hole_clubsHeld (t_Hole_clubsHeld_0 e q)
theorem d_Hole_believedOf_0 : decode prog_5_method_17_code 0 = .ok (.aload_n 0, 1) := by decide +kernel
theorem d_Hole_believedOf_1 : decode prog_5_method_17_code 1 = .ok (.iload_n 1, 1) := by decide +kernel
theorem d_Hole_believedOf_2 : decode prog_5_method_17_code 2 = .ok (.invokevirtual 63, 3) := by decide +kernel
theorem d_Hole_believedOf_5 : decode prog_5_method_17_code 5 = .ok (.ifCond .eq 12, 3) := by decide +kernel
theorem d_Hole_believedOf_8 : decode prog_5_method_17_code 8 = .ok (.aload_n 0, 1) := by decide +kernel
theorem d_Hole_believedOf_9 : decode prog_5_method_17_code 9 = .ok (.getfield 21, 3) := by decide +kernel
theorem d_Hole_believedOf_12 : decode prog_5_method_17_code 12 = .ok (.iload_n 1, 1) := by decide +kernel
theorem d_Hole_believedOf_13 : decode prog_5_method_17_code 13 = .ok (.iaload, 1) := by decide +kernel
theorem d_Hole_believedOf_14 : decode prog_5_method_17_code 14 = .ok (.goto 4, 3) := by decide +kernel
theorem d_Hole_believedOf_17 : decode prog_5_method_17_code 17 = .ok (.iconst 0, 1) := by decide +kernel
theorem d_Hole_believedOf_18 : decode prog_5_method_17_code 18 = .ok (.ireturn, 1) := by decide +kernel
theorem b_Hole_believedOf_0 {d : Nat} {x1 : Int32} {h : am_H} {Q : am_Q} (k : m_Hole_hasClub d [.ref 1, .int x1] h (fun r hh => am_W (X_Hole_believedOf (d + 1)) 5 [some (.ref 1), some (.int x1)] (r.toList ++ []) hh Q)) : am_W (X_Hole_believedOf (d + 1)) 0 [some (.ref 1), some (.int x1)] [] h Q :=
  am_aload_n d_Hole_believedOf_0 rfl (i := 0) rfl <|
    am_iload_n d_Hole_believedOf_1 rfl (i := 1) rfl <|
    am_callV (vs := [.int x1]) (st := []) (k := 1) (ci := 1) rfl d_Hole_believedOf_2 rfl rfl w_471 w_472 w_473 w_84 w_474 p_Hole_hasClub (Nat.le_of_ble_eq_true rfl) (Nat.le_of_ble_eq_true rfl) rfl k
theorem b_Hole_believedOf_5 {d : Nat} {x1 : Int32} {y0 : Bool} {h : am_H} {Q : am_Q} (kt : (am_b y0) = 0 → am_W (X_Hole_believedOf d) 17 [some (.ref 1), some (.int x1)] [] h Q) (kf : ¬ (am_b y0) = 0 → am_W (X_Hole_believedOf d) 8 [some (.ref 1), some (.int x1)] [] h Q) : am_W (X_Hole_believedOf d) 5 [some (.ref 1), some (.int x1)] [.int (am_b y0)] h Q :=
  am_if_eq (tgt := 17) d_Hole_believedOf_5 (by decide) kt kf
theorem b_Hole_believedOf_8 {d : Nat} {x1 : Int32} {h : am_H} {Q : am_Q} (q0 : vp_in x1 6) (q : Q (some (.int (h.1 5 x1.toNatClampNeg))) h) : am_W (X_Hole_believedOf d) 8 [some (.ref 1), some (.int x1)] [] h Q :=
  am_aload_n d_Hole_believedOf_8 rfl (i := 0) rfl <|
    am_getR (ci := 1) (i := 3) rfl rfl rfl (Nat.le_of_ble_eq_true rfl) w_125 d_Hole_believedOf_9 <|
    am_iload_n d_Hole_believedOf_12 rfl (i := 1) rfl <|
    am_iald rfl q0 d_Hole_believedOf_13 <|
    am_goto (tgt := 18) d_Hole_believedOf_14 (by decide) <|
    am_iret rfl d_Hole_believedOf_18 q
theorem b_Hole_believedOf_17 {d : Nat} {x1 : Int32} {h : am_H} {Q : am_Q} (q : Q (some (.int 0)) h) : am_W (X_Hole_believedOf d) 17 [some (.ref 1), some (.int x1)] [] h Q :=
  am_iconst (v := 0) d_Hole_believedOf_17 (by decide) <|
    am_iret rfl d_Hole_believedOf_18 q
theorem t_Hole_believedOf_17 {d : Nat} {x1 : Int32} {h : am_H} {Q : am_Q} {res : Int32} (e : f_Hole_believedOf_17 h = some res) (q : Q (some (.int res)) h) : am_W (X_Hole_believedOf (d + 1)) 17 [some (.ref 1), some (.int x1)] [] h Q :=
  b_Hole_believedOf_17 (d := (d + 1)) (q := (am_rIp (v := 0) e q))
theorem t_Hole_believedOf_8 {d : Nat} {x1 : Int32} {h : am_H} {Q : am_Q} {res : Int32} (e : f_Hole_believedOf_8 h x1 = some res) (q : Q (some (.int res)) h) : am_W (X_Hole_believedOf (d + 1)) 8 [some (.ref 1), some (.int x1)] [] h Q :=
  b_Hole_believedOf_8 (d := (d + 1)) (q0 := (am_okv (am_gd e))) (q := (am_rIp (v := (h.1 5 x1.toNatClampNeg)) (am_ga e) q))
theorem t_Hole_believedOf_5 {d : Nat} {x1 : Int32} {y0 : Bool} {h : am_H} {Q : am_Q} {res : Int32} (e : f_Hole_believedOf_5 h x1 y0 = some res) (q : Q (some (.int res)) h) : am_W (X_Hole_believedOf (d + 1)) 5 [some (.ref 1), some (.int x1)] [.int (am_b y0)] h Q :=
  b_Hole_believedOf_5 (d := (d + 1)) (kt := fun c => (t_Hole_believedOf_17 (am_iff e (am_bz c)) q)) (kf := fun c => (t_Hole_believedOf_8 (am_ift e (am_bn c)) q))
theorem t_Hole_believedOf_0 {d : Nat} {x1 : Int32} {h : am_H} {Q : am_Q} {res : Int32} (e : f_Hole_believedOf h x1 = some res) (q : Q (some (.int res)) h) : am_W (X_Hole_believedOf (d + 1)) 0 [some (.ref 1), some (.int x1)] [] h Q :=
  b_Hole_believedOf_0 (d := d) (k := c_Hole_hasClub (d := d) rfl (t_Hole_believedOf_5 e q))
theorem c_Hole_believedOf {d : Nat} {x1 : Int32} {h : am_H} {Q : am_Q} {res : Int32} (e : f_Hole_believedOf h x1 = some res) (q : Q (some (.int res)) h) : m_Hole_believedOf (d + 1) [.ref 1, .int x1] h Q :=
  e_Hole_believedOf (t_Hole_believedOf_0 e q)
theorem d_Hole_cellsToPin_0 : decode prog_5_method_28_code 0 = .ok (.iload_n 1, 1) := by decide +kernel
theorem d_Hole_cellsToPin_1 : decode prog_5_method_28_code 1 = .ok (.aload_n 0, 1) := by decide +kernel
theorem d_Hole_cellsToPin_2 : decode prog_5_method_28_code 2 = .ok (.getfield 28, 3) := by decide +kernel
theorem d_Hole_cellsToPin_5 : decode prog_5_method_28_code 5 = .ok (.isub, 1) := by decide +kernel
theorem d_Hole_cellsToPin_6 : decode prog_5_method_28_code 6 = .ok (.invokestatic 107, 3) := by decide +kernel
theorem d_Hole_cellsToPin_9 : decode prog_5_method_28_code 9 = .ok (.ireturn, 1) := by decide +kernel
theorem b_Hole_cellsToPin_0 {d : Nat} {x1 : Int32} {h : am_H} {Q : am_Q} (q : Q (some (.int (if 0 ≤ (x1 - (h.1 1 5)) then (x1 - (h.1 1 5)) else 0 - (x1 - (h.1 1 5))))) h) : am_W (X_Hole_cellsToPin d) 0 [some (.ref 1), some (.int x1)] [] h Q :=
  am_iload_n d_Hole_cellsToPin_0 rfl (i := 1) rfl <|
    am_aload_n d_Hole_cellsToPin_1 rfl (i := 0) rfl <|
    am_getI (ci := 1) (i := 5) rfl rfl rfl (Nat.le_of_ble_eq_true rfl) w_127 d_Hole_cellsToPin_2 <|
    am_isub d_Hole_cellsToPin_5 <|
    am_mabs w_751 d_Hole_cellsToPin_6 (Nat.le_of_ble_eq_true rfl) <|
    am_iret rfl d_Hole_cellsToPin_9 q
theorem t_Hole_cellsToPin_0 {d : Nat} {x1 : Int32} {h : am_H} {Q : am_Q} {res : Int32} (e : f_Hole_cellsToPin h x1 = res) (q : Q (some (.int res)) h) : am_W (X_Hole_cellsToPin d) 0 [some (.ref 1), some (.int x1)] [] h Q :=
  b_Hole_cellsToPin_0 (d := d) (q := (am_rIt (v := (if 0 ≤ (x1 - (h.1 1 5)) then (x1 - (h.1 1 5)) else 0 - (x1 - (h.1 1 5)))) e q))
theorem c_Hole_cellsToPin {d : Nat} {x1 : Int32} {h : am_H} {Q : am_Q} {res : Int32} (e : f_Hole_cellsToPin h x1 = res) (q : Q (some (.int res)) h) : m_Hole_cellsToPin d [.ref 1, .int x1] h Q :=
  e_Hole_cellsToPin (t_Hole_cellsToPin_0 e q)
theorem d_Hole_groundOf_0 : decode prog_5_method_24_code 0 = .ok (.iload_n 1, 1) := by decide +kernel
theorem d_Hole_groundOf_1 : decode prog_5_method_24_code 1 = .ok (.invokestatic 59, 3) := by decide +kernel
theorem d_Hole_groundOf_4 : decode prog_5_method_24_code 4 = .ok (.ifCond .eq 12, 3) := by decide +kernel
theorem d_Hole_groundOf_7 : decode prog_5_method_24_code 7 = .ok (.aload_n 0, 1) := by decide +kernel
theorem d_Hole_groundOf_8 : decode prog_5_method_24_code 8 = .ok (.getfield 11, 3) := by decide +kernel
theorem d_Hole_groundOf_11 : decode prog_5_method_24_code 11 = .ok (.iload_n 1, 1) := by decide +kernel
theorem d_Hole_groundOf_12 : decode prog_5_method_24_code 12 = .ok (.iaload, 1) := by decide +kernel
theorem d_Hole_groundOf_13 : decode prog_5_method_24_code 13 = .ok (.goto 4, 3) := by decide +kernel
theorem d_Hole_groundOf_16 : decode prog_5_method_24_code 16 = .ok (.iconst 0, 1) := by decide +kernel
theorem d_Hole_groundOf_17 : decode prog_5_method_24_code 17 = .ok (.ireturn, 1) := by decide +kernel
theorem b_Hole_groundOf_0 {d : Nat} {x1 : Int32} {h : am_H} {Q : am_Q} (k : m_Hole_isCell d [.int x1] h (fun r hh => am_W (X_Hole_groundOf (d + 1)) 4 [some (.ref 1), some (.int x1)] (r.toList ++ []) hh Q)) : am_W (X_Hole_groundOf (d + 1)) 0 [some (.ref 1), some (.int x1)] [] h Q :=
  am_iload_n d_Hole_groundOf_0 rfl (i := 1) rfl <|
    am_callS (vs := [.int x1]) (st := []) rfl d_Hole_groundOf_1 w_468 w_469 w_84 w_470 p_Hole_isCell (Nat.le_of_ble_eq_true rfl) (Nat.le_of_ble_eq_true rfl) rfl k
theorem b_Hole_groundOf_4 {d : Nat} {x1 : Int32} {y0 : Bool} {h : am_H} {Q : am_Q} (kt : (am_b y0) = 0 → am_W (X_Hole_groundOf d) 16 [some (.ref 1), some (.int x1)] [] h Q) (kf : ¬ (am_b y0) = 0 → am_W (X_Hole_groundOf d) 7 [some (.ref 1), some (.int x1)] [] h Q) : am_W (X_Hole_groundOf d) 4 [some (.ref 1), some (.int x1)] [.int (am_b y0)] h Q :=
  am_if_eq (tgt := 16) d_Hole_groundOf_4 (by decide) kt kf
theorem b_Hole_groundOf_7 {d : Nat} {x1 : Int32} {h : am_H} {Q : am_Q} (q0 : vp_in x1 31) (q : Q (some (.int (h.1 2 x1.toNatClampNeg))) h) : am_W (X_Hole_groundOf d) 7 [some (.ref 1), some (.int x1)] [] h Q :=
  am_aload_n d_Hole_groundOf_7 rfl (i := 0) rfl <|
    am_getR (ci := 1) (i := 0) rfl rfl rfl (Nat.le_of_ble_eq_true rfl) w_122 d_Hole_groundOf_8 <|
    am_iload_n d_Hole_groundOf_11 rfl (i := 1) rfl <|
    am_iald rfl q0 d_Hole_groundOf_12 <|
    am_goto (tgt := 17) d_Hole_groundOf_13 (by decide) <|
    am_iret rfl d_Hole_groundOf_17 q
theorem b_Hole_groundOf_16 {d : Nat} {x1 : Int32} {h : am_H} {Q : am_Q} (q : Q (some (.int 0)) h) : am_W (X_Hole_groundOf d) 16 [some (.ref 1), some (.int x1)] [] h Q :=
  am_iconst (v := 0) d_Hole_groundOf_16 (by decide) <|
    am_iret rfl d_Hole_groundOf_17 q
theorem t_Hole_groundOf_16 {d : Nat} {x1 : Int32} {h : am_H} {Q : am_Q} {res : Int32} (e : f_Hole_groundOf_16 h = some res) (q : Q (some (.int res)) h) : am_W (X_Hole_groundOf (d + 1)) 16 [some (.ref 1), some (.int x1)] [] h Q :=
  b_Hole_groundOf_16 (d := (d + 1)) (q := (am_rIp (v := 0) e q))
theorem t_Hole_groundOf_7 {d : Nat} {x1 : Int32} {h : am_H} {Q : am_Q} {res : Int32} (e : f_Hole_groundOf_7 h x1 = some res) (q : Q (some (.int res)) h) : am_W (X_Hole_groundOf (d + 1)) 7 [some (.ref 1), some (.int x1)] [] h Q :=
  b_Hole_groundOf_7 (d := (d + 1)) (q0 := (am_okv (am_gd e))) (q := (am_rIp (v := (h.1 2 x1.toNatClampNeg)) (am_ga e) q))
theorem t_Hole_groundOf_4 {d : Nat} {x1 : Int32} {y0 : Bool} {h : am_H} {Q : am_Q} {res : Int32} (e : f_Hole_groundOf_4 h x1 y0 = some res) (q : Q (some (.int res)) h) : am_W (X_Hole_groundOf (d + 1)) 4 [some (.ref 1), some (.int x1)] [.int (am_b y0)] h Q :=
  b_Hole_groundOf_4 (d := (d + 1)) (kt := fun c => (t_Hole_groundOf_16 (am_iff e (am_bz c)) q)) (kf := fun c => (t_Hole_groundOf_7 (am_ift e (am_bn c)) q))
theorem t_Hole_groundOf_0 {d : Nat} {x1 : Int32} {h : am_H} {Q : am_Q} {res : Int32} (e : f_Hole_groundOf h x1 = some res) (q : Q (some (.int res)) h) : am_W (X_Hole_groundOf (d + 1)) 0 [some (.ref 1), some (.int x1)] [] h Q :=
  b_Hole_groundOf_0 (d := d) (k := c_Hole_isCell (d := d) rfl (t_Hole_groundOf_4 e q))
theorem c_Hole_groundOf {d : Nat} {x1 : Int32} {h : am_H} {Q : am_Q} {res : Int32} (e : f_Hole_groundOf h x1 = some res) (q : Q (some (.int res)) h) : m_Hole_groundOf (d + 1) [.ref 1, .int x1] h Q :=
  e_Hole_groundOf (t_Hole_groundOf_0 e q)
theorem d_Hole_windNow_0 : decode prog_5_method_25_code 0 = .ok (.aload_n 0, 1) := by decide +kernel
theorem d_Hole_windNow_1 : decode prog_5_method_25_code 1 = .ok (.getfield 31, 3) := by decide +kernel
theorem d_Hole_windNow_4 : decode prog_5_method_25_code 4 = .ok (.ireturn, 1) := by decide +kernel
theorem b_Hole_windNow_0 {d : Nat} {h : am_H} {Q : am_Q} (q : Q (some (.int (h.1 1 6))) h) : am_W (X_Hole_windNow d) 0 [some (.ref 1)] [] h Q :=
  am_aload_n d_Hole_windNow_0 rfl (i := 0) rfl <|
    am_getI (ci := 1) (i := 6) rfl rfl rfl (Nat.le_of_ble_eq_true rfl) w_128 d_Hole_windNow_1 <|
    am_iret rfl d_Hole_windNow_4 q
theorem t_Hole_windNow_0 {d : Nat} {h : am_H} {Q : am_Q} {res : Int32} (e : f_Hole_windNow h = res) (q : Q (some (.int res)) h) : am_W (X_Hole_windNow d) 0 [some (.ref 1)] [] h Q :=
  b_Hole_windNow_0 (d := d) (q := (am_rIt (v := (h.1 1 6)) e q))
theorem c_Hole_windNow {d : Nat} {h : am_H} {Q : am_Q} {res : Int32} (e : f_Hole_windNow h = res) (q : Q (some (.int res)) h) : m_Hole_windNow d [.ref 1] h Q :=
  e_Hole_windNow (t_Hole_windNow_0 e q)
