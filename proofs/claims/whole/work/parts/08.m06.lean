theorem d_Hole_isPin_0 : decode prog_5_method_27_code 0 = .ok (.iload_n 1, 1) := by decide +kernel
theorem d_Hole_isPin_1 : decode prog_5_method_27_code 1 = .ok (.aload_n 0, 1) := by decide +kernel
theorem d_Hole_isPin_2 : decode prog_5_method_27_code 2 = .ok (.getfield 28, 3) := by decide +kernel
theorem d_Hole_isPin_5 : decode prog_5_method_27_code 5 = .ok (.if_icmp .ne 7, 3) := by decide +kernel
theorem d_Hole_isPin_8 : decode prog_5_method_27_code 8 = .ok (.iconst 1, 1) := by decide +kernel
theorem d_Hole_isPin_9 : decode prog_5_method_27_code 9 = .ok (.goto 4, 3) := by decide +kernel
theorem d_Hole_isPin_12 : decode prog_5_method_27_code 12 = .ok (.iconst 0, 1) := by decide +kernel
theorem d_Hole_isPin_13 : decode prog_5_method_27_code 13 = .ok (.ireturn, 1) := by decide +kernel
theorem b_Hole_isPin_0 {d : Nat} {x1 : Int32} {h : am_H} {Q : am_Q} (kt : ¬ x1 = (h.1 1 5) → am_W (X_Hole_isPin d) 12 [some (.ref 1), some (.int x1)] [] h Q) (kf : x1 = (h.1 1 5) → am_W (X_Hole_isPin d) 8 [some (.ref 1), some (.int x1)] [] h Q) : am_W (X_Hole_isPin d) 0 [some (.ref 1), some (.int x1)] [] h Q :=
  am_iload_n d_Hole_isPin_0 rfl (i := 1) rfl <|
    am_aload_n d_Hole_isPin_1 rfl (i := 0) rfl <|
    am_getI (ci := 1) (i := 5) rfl rfl rfl (Nat.le_of_ble_eq_true rfl) w_127 d_Hole_isPin_2 <|
    am_icmp_ne (tgt := 12) d_Hole_isPin_5 (by decide) kt kf
theorem b_Hole_isPin_8 {d : Nat} {x1 : Int32} {h : am_H} {Q : am_Q} (q : Q (some (.int 1)) h) : am_W (X_Hole_isPin d) 8 [some (.ref 1), some (.int x1)] [] h Q :=
  am_iconst (v := 1) d_Hole_isPin_8 (by decide) <|
    am_goto (tgt := 13) d_Hole_isPin_9 (by decide) <|
    am_zret (ty := .boolean) rfl (by decide) d_Hole_isPin_13 q
theorem b_Hole_isPin_12 {d : Nat} {x1 : Int32} {h : am_H} {Q : am_Q} (q : Q (some (.int 0)) h) : am_W (X_Hole_isPin d) 12 [some (.ref 1), some (.int x1)] [] h Q :=
  am_iconst (v := 0) d_Hole_isPin_12 (by decide) <|
    am_zret (ty := .boolean) rfl (by decide) d_Hole_isPin_13 q
theorem t_Hole_isPin_12 {d : Nat} {x1 : Int32} {h : am_H} {Q : am_Q} {res : Bool} (e : f_Hole_isPin_12 h = res) (q : Q (some (.int (am_b res))) h) : am_W (X_Hole_isPin d) 12 [some (.ref 1), some (.int x1)] [] h Q :=
  b_Hole_isPin_12 (d := d) (q := (am_rZt (v := false) e q))
theorem t_Hole_isPin_8 {d : Nat} {x1 : Int32} {h : am_H} {Q : am_Q} {res : Bool} (e : f_Hole_isPin_8 h = res) (q : Q (some (.int (am_b res))) h) : am_W (X_Hole_isPin d) 8 [some (.ref 1), some (.int x1)] [] h Q :=
  b_Hole_isPin_8 (d := d) (q := (am_rZt (v := true) e q))
theorem t_Hole_isPin_0 {d : Nat} {x1 : Int32} {h : am_H} {Q : am_Q} {res : Bool} (e : f_Hole_isPin h x1 = res) (q : Q (some (.int (am_b res))) h) : am_W (X_Hole_isPin d) 0 [some (.ref 1), some (.int x1)] [] h Q :=
  b_Hole_isPin_0 (d := d) (kt := fun c => (t_Hole_isPin_12 (am_ife e c) q)) (kf := fun c => (t_Hole_isPin_8 (am_ift e c) q))
theorem c_Hole_isPin {d : Nat} {x1 : Int32} {h : am_H} {Q : am_Q} {res : Bool} (e : f_Hole_isPin h x1 = res) (q : Q (some (.int (am_b res))) h) : m_Hole_isPin d [.ref 1, .int x1] h Q :=
  e_Hole_isPin (t_Hole_isPin_0 e q)
theorem d_Hole_touchNow_0 : decode prog_5_method_26_code 0 = .ok (.aload_n 0, 1) := by decide +kernel
theorem d_Hole_touchNow_1 : decode prog_5_method_26_code 1 = .ok (.getfield 34, 3) := by decide +kernel
theorem d_Hole_touchNow_4 : decode prog_5_method_26_code 4 = .ok (.ireturn, 1) := by decide +kernel
theorem b_Hole_touchNow_0 {d : Nat} {h : am_H} {Q : am_Q} (q : Q (some (.int (h.1 1 7))) h) : am_W (X_Hole_touchNow d) 0 [some (.ref 1)] [] h Q :=
  am_aload_n d_Hole_touchNow_0 rfl (i := 0) rfl <|
    am_getI (ci := 1) (i := 7) rfl rfl rfl (Nat.le_of_ble_eq_true rfl) w_129 d_Hole_touchNow_1 <|
    am_iret rfl d_Hole_touchNow_4 q
theorem t_Hole_touchNow_0 {d : Nat} {h : am_H} {Q : am_Q} {res : Int32} (e : f_Hole_touchNow h = res) (q : Q (some (.int res)) h) : am_W (X_Hole_touchNow d) 0 [some (.ref 1)] [] h Q :=
  b_Hole_touchNow_0 (d := d) (q := (am_rIt (v := (h.1 1 7)) e q))
theorem c_Hole_touchNow {d : Nat} {h : am_H} {Q : am_Q} {res : Int32} (e : f_Hole_touchNow h = res) (q : Q (some (.int res)) h) : m_Hole_touchNow d [.ref 1] h Q :=
  e_Hole_touchNow (t_Hole_touchNow_0 e q)
theorem d_Draws_puttsFrom_0 : decode prog_4_method_5_code 0 = .ok (.aload_n 0, 1) := by decide +kernel
theorem d_Draws_puttsFrom_1 : decode prog_4_method_5_code 1 = .ok (.getfield 21, 3) := by decide +kernel
theorem d_Draws_puttsFrom_4 : decode prog_4_method_5_code 4 = .ok (.iload_n 1, 1) := by decide +kernel
theorem d_Draws_puttsFrom_5 : decode prog_4_method_5_code 5 = .ok (.invokevirtual 52, 3) := by decide +kernel
theorem d_Draws_puttsFrom_8 : decode prog_4_method_5_code 8 = .ok (.ifCond .eq 5, 3) := by decide +kernel
theorem d_Draws_puttsFrom_11 : decode prog_4_method_5_code 11 = .ok (.iconst 1, 1) := by decide +kernel
theorem d_Draws_puttsFrom_12 : decode prog_4_method_5_code 12 = .ok (.ireturn, 1) := by decide +kernel
theorem d_Draws_puttsFrom_13 : decode prog_4_method_5_code 13 = .ok (.aload_n 0, 1) := by decide +kernel
theorem d_Draws_puttsFrom_14 : decode prog_4_method_5_code 14 = .ok (.bipush 12, 2) := by decide +kernel
theorem d_Draws_puttsFrom_16 : decode prog_4_method_5_code 16 = .ok (.invokevirtual 36, 3) := by decide +kernel
theorem d_Draws_puttsFrom_19 : decode prog_4_method_5_code 19 = .ok (.aload_n 0, 1) := by decide +kernel
theorem d_Draws_puttsFrom_20 : decode prog_4_method_5_code 20 = .ok (.getfield 21, 3) := by decide +kernel
theorem d_Draws_puttsFrom_23 : decode prog_4_method_5_code 23 = .ok (.invokevirtual 56, 3) := by decide +kernel
theorem d_Draws_puttsFrom_26 : decode prog_4_method_5_code 26 = .ok (.if_icmp .ge 7, 3) := by decide +kernel
theorem d_Draws_puttsFrom_29 : decode prog_4_method_5_code 29 = .ok (.iconst 1, 1) := by decide +kernel
theorem d_Draws_puttsFrom_30 : decode prog_4_method_5_code 30 = .ok (.goto 4, 3) := by decide +kernel
theorem d_Draws_puttsFrom_33 : decode prog_4_method_5_code 33 = .ok (.iconst 2, 1) := by decide +kernel
theorem d_Draws_puttsFrom_34 : decode prog_4_method_5_code 34 = .ok (.ireturn, 1) := by decide +kernel
theorem b_Draws_puttsFrom_0 {d : Nat} {x1 : Int32} {h : am_H} {Q : am_Q} (k : m_Hole_isPin d [.ref 1, .int x1] h (fun r hh => am_W (X_Draws_puttsFrom (d + 1)) 8 [some (.ref 18), some (.int x1)] (r.toList ++ []) hh Q)) : am_W (X_Draws_puttsFrom (d + 1)) 0 [some (.ref 18), some (.int x1)] [] h Q :=
  am_aload_n d_Draws_puttsFrom_0 rfl (i := 0) rfl <|
    am_getR (ci := 5) (i := 0) rfl rfl rfl (Nat.le_of_ble_eq_true rfl) w_260 d_Draws_puttsFrom_1 <|
    am_iload_n d_Draws_puttsFrom_4 rfl (i := 1) rfl <|
    am_callV (vs := [.int x1]) (st := []) (k := 1) (ci := 1) rfl d_Draws_puttsFrom_5 rfl rfl w_1035 w_1036 w_1037 w_84 w_1038 p_Hole_isPin (Nat.le_of_ble_eq_true rfl) (Nat.le_of_ble_eq_true rfl) rfl k
theorem b_Draws_puttsFrom_8 {d : Nat} {x1 : Int32} {y0 : Bool} {h : am_H} {Q : am_Q} (kt : (am_b y0) = 0 → am_W (X_Draws_puttsFrom d) 13 [some (.ref 18), some (.int x1)] [] h Q) (kf : ¬ (am_b y0) = 0 → am_W (X_Draws_puttsFrom d) 11 [some (.ref 18), some (.int x1)] [] h Q) : am_W (X_Draws_puttsFrom d) 8 [some (.ref 18), some (.int x1)] [.int (am_b y0)] h Q :=
  am_if_eq (tgt := 13) d_Draws_puttsFrom_8 (by decide) kt kf
theorem b_Draws_puttsFrom_11 {d : Nat} {x1 : Int32} {h : am_H} {Q : am_Q} (q : Q (some (.int 1)) h) : am_W (X_Draws_puttsFrom d) 11 [some (.ref 18), some (.int x1)] [] h Q :=
  am_iconst (v := 1) d_Draws_puttsFrom_11 (by decide) <|
    am_iret rfl d_Draws_puttsFrom_12 q
theorem b_Draws_puttsFrom_13 {d : Nat} {x1 : Int32} {h : am_H} {Q : am_Q} (k : m_Draws_draw d [.ref 18, .int 12] h (fun r hh => am_W (X_Draws_puttsFrom (d + 1)) 19 [some (.ref 18), some (.int x1)] (r.toList ++ []) hh Q)) : am_W (X_Draws_puttsFrom (d + 1)) 13 [some (.ref 18), some (.int x1)] [] h Q :=
  am_aload_n d_Draws_puttsFrom_13 rfl (i := 0) rfl <|
    am_bipush (v := 12) d_Draws_puttsFrom_14 (by decide) <|
    am_callV (vs := [.int 12]) (st := []) (k := 18) (ci := 5) rfl d_Draws_puttsFrom_16 rfl rfl w_1021 w_1023 w_28 w_89 w_1024 p_Draws_draw (Nat.le_of_ble_eq_true rfl) (Nat.le_of_ble_eq_true rfl) rfl k
theorem b_Draws_puttsFrom_19 {d : Nat} {x1 : Int32} {y0 : Int32} {h : am_H} {Q : am_Q} (k : m_Hole_touchNow d [.ref 1] h (fun r hh => am_W (X_Draws_puttsFrom (d + 1)) 26 [some (.ref 18), some (.int x1)] (r.toList ++ [.int y0]) hh Q)) : am_W (X_Draws_puttsFrom (d + 1)) 19 [some (.ref 18), some (.int x1)] [.int y0] h Q :=
  am_aload_n d_Draws_puttsFrom_19 rfl (i := 0) rfl <|
    am_getR (ci := 5) (i := 0) rfl rfl rfl (Nat.le_of_ble_eq_true rfl) w_260 d_Draws_puttsFrom_20 <|
    am_callV (vs := []) (st := [.int y0]) (k := 1) (ci := 1) rfl d_Draws_puttsFrom_23 rfl rfl w_1039 w_1040 w_1041 w_84 w_1042 p_Hole_touchNow (Nat.le_of_ble_eq_true rfl) (Nat.le_of_ble_eq_true rfl) rfl k
theorem b_Draws_puttsFrom_26 {d : Nat} {x1 : Int32} {y1 : Int32} {y0 : Int32} {h : am_H} {Q : am_Q} (kt : y1 ≤ y0 → am_W (X_Draws_puttsFrom d) 33 [some (.ref 18), some (.int x1)] [] h Q) (kf : ¬ y1 ≤ y0 → am_W (X_Draws_puttsFrom d) 29 [some (.ref 18), some (.int x1)] [] h Q) : am_W (X_Draws_puttsFrom d) 26 [some (.ref 18), some (.int x1)] [.int y1, .int y0] h Q :=
  am_icmp_ge (tgt := 33) d_Draws_puttsFrom_26 (by decide) kt kf
theorem b_Draws_puttsFrom_29 {d : Nat} {x1 : Int32} {h : am_H} {Q : am_Q} (q : Q (some (.int 1)) h) : am_W (X_Draws_puttsFrom d) 29 [some (.ref 18), some (.int x1)] [] h Q :=
  am_iconst (v := 1) d_Draws_puttsFrom_29 (by decide) <|
    am_goto (tgt := 34) d_Draws_puttsFrom_30 (by decide) <|
    am_iret rfl d_Draws_puttsFrom_34 q
theorem b_Draws_puttsFrom_33 {d : Nat} {x1 : Int32} {h : am_H} {Q : am_Q} (q : Q (some (.int 2)) h) : am_W (X_Draws_puttsFrom d) 33 [some (.ref 18), some (.int x1)] [] h Q :=
  am_iconst (v := 2) d_Draws_puttsFrom_33 (by decide) <|
    am_iret rfl d_Draws_puttsFrom_34 q
theorem t_Draws_puttsFrom_33 {d : Nat} {x1 : Int32} {h : am_H} {Q : am_Q} {res : Int32 × am_H} (e : f_Draws_puttsFrom_33 h = some res) (q : Q (some (.int res.1)) res.2) : am_W (X_Draws_puttsFrom (d + 1)) 33 [some (.ref 18), some (.int x1)] [] h Q :=
  b_Draws_puttsFrom_33 (d := (d + 1)) (q := (am_rIpi (v := 2) e q))
theorem t_Draws_puttsFrom_29 {d : Nat} {x1 : Int32} {h : am_H} {Q : am_Q} {res : Int32 × am_H} (e : f_Draws_puttsFrom_29 h = some res) (q : Q (some (.int res.1)) res.2) : am_W (X_Draws_puttsFrom (d + 1)) 29 [some (.ref 18), some (.int x1)] [] h Q :=
  b_Draws_puttsFrom_29 (d := (d + 1)) (q := (am_rIpi (v := 1) e q))
theorem t_Draws_puttsFrom_26 {d : Nat} {x1 : Int32} {y1 : Int32} {y0 : Int32} {h : am_H} {Q : am_Q} {res : Int32 × am_H} (e : f_Draws_puttsFrom_26 h y1 y0 = some res) (q : Q (some (.int res.1)) res.2) : am_W (X_Draws_puttsFrom (d + 1)) 26 [some (.ref 18), some (.int x1)] [.int y1, .int y0] h Q :=
  b_Draws_puttsFrom_26 (d := (d + 1)) (kt := fun c => (t_Draws_puttsFrom_33 (am_ift e c) q)) (kf := fun c => (t_Draws_puttsFrom_29 (am_ife e c) q))
theorem t_Draws_puttsFrom_19 {d : Nat} {x1 : Int32} {y0 : Int32} {h : am_H} {Q : am_Q} {res : Int32 × am_H} (e : f_Draws_puttsFrom_19 h y0 = some res) (q : Q (some (.int res.1)) res.2) : am_W (X_Draws_puttsFrom (d + 1)) 19 [some (.ref 18), some (.int x1)] [.int y0] h Q :=
  b_Draws_puttsFrom_19 (d := d) (k := c_Hole_touchNow (d := d) rfl (t_Draws_puttsFrom_26 e q))
theorem t_Draws_puttsFrom_13 {d : Nat} {x1 : Int32} {h : am_H} {Q : am_Q} {res : Int32 × am_H} (e : f_Draws_puttsFrom_13 h = some res) (q : Q (some (.int res.1)) res.2) : am_W (X_Draws_puttsFrom (d + 1)) 13 [some (.ref 18), some (.int x1)] [] h Q :=
  (am_bd e).elim fun p hp => b_Draws_puttsFrom_13 (d := d) (k := c_Draws_draw (d := d) hp.1 (t_Draws_puttsFrom_19 hp.2 q))
theorem t_Draws_puttsFrom_11 {d : Nat} {x1 : Int32} {h : am_H} {Q : am_Q} {res : Int32 × am_H} (e : f_Draws_puttsFrom_11 h = some res) (q : Q (some (.int res.1)) res.2) : am_W (X_Draws_puttsFrom (d + 1)) 11 [some (.ref 18), some (.int x1)] [] h Q :=
  b_Draws_puttsFrom_11 (d := (d + 1)) (q := (am_rIpi (v := 1) e q))
theorem t_Draws_puttsFrom_8 {d : Nat} {x1 : Int32} {y0 : Bool} {h : am_H} {Q : am_Q} {res : Int32 × am_H} (e : f_Draws_puttsFrom_8 h y0 = some res) (q : Q (some (.int res.1)) res.2) : am_W (X_Draws_puttsFrom (d + 1)) 8 [some (.ref 18), some (.int x1)] [.int (am_b y0)] h Q :=
  b_Draws_puttsFrom_8 (d := (d + 1)) (kt := fun c => (t_Draws_puttsFrom_13 (am_iff e (am_bz c)) q)) (kf := fun c => (t_Draws_puttsFrom_11 (am_ift e (am_bn c)) q))
theorem t_Draws_puttsFrom_0 {d : Nat} {x1 : Int32} {h : am_H} {Q : am_Q} {res : Int32 × am_H} (e : f_Draws_puttsFrom h x1 = some res) (q : Q (some (.int res.1)) res.2) : am_W (X_Draws_puttsFrom (d + 1)) 0 [some (.ref 18), some (.int x1)] [] h Q :=
  b_Draws_puttsFrom_0 (d := d) (k := c_Hole_isPin (d := d) rfl (t_Draws_puttsFrom_8 e q))
theorem c_Draws_puttsFrom {d : Nat} {x1 : Int32} {h : am_H} {Q : am_Q} {res : Int32 × am_H} (e : f_Draws_puttsFrom h x1 = some res) (q : Q (some (.int res.1)) res.2) : m_Draws_puttsFrom (d + 1) [.ref 18, .int x1] h Q :=
  e_Draws_puttsFrom (t_Draws_puttsFrom_0 e q)
theorem d_Draws_playHole_0 : decode prog_4_method_7_code 0 = .ok (.iconst 0, 1) := by decide +kernel
theorem d_Draws_playHole_1 : decode prog_4_method_7_code 1 = .ok (.istore_n 2, 1) := by decide +kernel
theorem d_Draws_playHole_2 : decode prog_4_method_7_code 2 = .ok (.iconst 0, 1) := by decide +kernel
theorem d_Draws_playHole_3 : decode prog_4_method_7_code 3 = .ok (.istore_n 3, 1) := by decide +kernel
theorem d_Draws_playHole_4 : decode prog_4_method_7_code 4 = .ok (.iload_n 3, 1) := by decide +kernel
theorem d_Draws_playHole_5 : decode prog_4_method_7_code 5 = .ok (.bipush 12, 2) := by decide +kernel
theorem d_Draws_playHole_7 : decode prog_4_method_7_code 7 = .ok (.if_icmp .ge 103, 3) := by decide +kernel
theorem d_Draws_playHole_10 : decode prog_4_method_7_code 10 = .ok (.aload_n 0, 1) := by decide +kernel
theorem d_Draws_playHole_11 : decode prog_4_method_7_code 11 = .ok (.getfield 21, 3) := by decide +kernel
theorem d_Draws_playHole_14 : decode prog_4_method_7_code 14 = .ok (.iload_n 2, 1) := by decide +kernel
theorem d_Draws_playHole_15 : decode prog_4_method_7_code 15 = .ok (.invokevirtual 67, 3) := by decide +kernel
theorem d_Draws_playHole_18 : decode prog_4_method_7_code 18 = .ok (.ifCond .ne 92, 3) := by decide +kernel
theorem d_Draws_playHole_21 : decode prog_4_method_7_code 21 = .ok (.iload_n 1, 1) := by decide +kernel
theorem d_Draws_playHole_22 : decode prog_4_method_7_code 22 = .ok (.ifCond .ne 15, 3) := by decide +kernel
theorem d_Draws_playHole_25 : decode prog_4_method_7_code 25 = .ok (.aload_n 0, 1) := by decide +kernel
theorem d_Draws_playHole_26 : decode prog_4_method_7_code 26 = .ok (.getfield 25, 3) := by decide +kernel
theorem d_Draws_playHole_29 : decode prog_4_method_7_code 29 = .ok (.iload_n 2, 1) := by decide +kernel
theorem d_Draws_playHole_30 : decode prog_4_method_7_code 30 = .ok (.iconst 3, 1) := by decide +kernel
theorem d_Draws_playHole_31 : decode prog_4_method_7_code 31 = .ok (.invokevirtual 70, 3) := by decide +kernel
theorem d_Draws_playHole_34 : decode prog_4_method_7_code 34 = .ok (.goto 11, 3) := by decide +kernel
theorem d_Draws_playHole_37 : decode prog_4_method_7_code 37 = .ok (.aload_n 0, 1) := by decide +kernel
theorem d_Draws_playHole_38 : decode prog_4_method_7_code 38 = .ok (.getfield 25, 3) := by decide +kernel
theorem d_Draws_playHole_41 : decode prog_4_method_7_code 41 = .ok (.iload_n 2, 1) := by decide +kernel
theorem d_Draws_playHole_42 : decode prog_4_method_7_code 42 = .ok (.invokevirtual 75, 3) := by decide +kernel
theorem d_Draws_playHole_45 : decode prog_4_method_7_code 45 = .ok (.istore 4, 2) := by decide +kernel
theorem d_Draws_playHole_47 : decode prog_4_method_7_code 47 = .ok (.aload_n 0, 1) := by decide +kernel
theorem d_Draws_playHole_48 : decode prog_4_method_7_code 48 = .ok (.iload_n 2, 1) := by decide +kernel
theorem d_Draws_playHole_49 : decode prog_4_method_7_code 49 = .ok (.iload 4, 2) := by decide +kernel
theorem d_Draws_playHole_51 : decode prog_4_method_7_code 51 = .ok (.invokevirtual 78, 3) := by decide +kernel
theorem d_Draws_playHole_54 : decode prog_4_method_7_code 54 = .ok (.istore 5, 2) := by decide +kernel
theorem d_Draws_playHole_56 : decode prog_4_method_7_code 56 = .ok (.aload_n 0, 1) := by decide +kernel
theorem d_Draws_playHole_57 : decode prog_4_method_7_code 57 = .ok (.dup, 1) := by decide +kernel
theorem d_Draws_playHole_58 : decode prog_4_method_7_code 58 = .ok (.getfield 15, 3) := by decide +kernel
theorem d_Draws_playHole_61 : decode prog_4_method_7_code 61 = .ok (.iconst 1, 1) := by decide +kernel
theorem d_Draws_playHole_62 : decode prog_4_method_7_code 62 = .ok (.iadd, 1) := by decide +kernel
theorem d_Draws_playHole_63 : decode prog_4_method_7_code 63 = .ok (.putfield 15, 3) := by decide +kernel
theorem d_Draws_playHole_66 : decode prog_4_method_7_code 66 = .ok (.aload_n 0, 1) := by decide +kernel
theorem d_Draws_playHole_67 : decode prog_4_method_7_code 67 = .ok (.getfield 21, 3) := by decide +kernel
theorem d_Draws_playHole_70 : decode prog_4_method_7_code 70 = .ok (.iload 5, 2) := by decide +kernel
theorem d_Draws_playHole_72 : decode prog_4_method_7_code 72 = .ok (.invokevirtual 81, 3) := by decide +kernel
theorem d_Draws_playHole_75 : decode prog_4_method_7_code 75 = .ok (.ifCond .eq 26, 3) := by decide +kernel
theorem d_Draws_playHole_78 : decode prog_4_method_7_code 78 = .ok (.aload_n 0, 1) := by decide +kernel
theorem d_Draws_playHole_79 : decode prog_4_method_7_code 79 = .ok (.dup, 1) := by decide +kernel
theorem d_Draws_playHole_80 : decode prog_4_method_7_code 80 = .ok (.getfield 15, 3) := by decide +kernel
theorem d_Draws_playHole_83 : decode prog_4_method_7_code 83 = .ok (.iconst 1, 1) := by decide +kernel
theorem d_Draws_playHole_84 : decode prog_4_method_7_code 84 = .ok (.iadd, 1) := by decide +kernel
theorem d_Draws_playHole_85 : decode prog_4_method_7_code 85 = .ok (.putfield 15, 3) := by decide +kernel
theorem d_Draws_playHole_88 : decode prog_4_method_7_code 88 = .ok (.aload_n 0, 1) := by decide +kernel
theorem d_Draws_playHole_89 : decode prog_4_method_7_code 89 = .ok (.dup, 1) := by decide +kernel
theorem d_Draws_playHole_90 : decode prog_4_method_7_code 90 = .ok (.getfield 18, 3) := by decide +kernel
theorem d_Draws_playHole_93 : decode prog_4_method_7_code 93 = .ok (.iconst 1, 1) := by decide +kernel
theorem d_Draws_playHole_94 : decode prog_4_method_7_code 94 = .ok (.iadd, 1) := by decide +kernel
theorem d_Draws_playHole_95 : decode prog_4_method_7_code 95 = .ok (.putfield 18, 3) := by decide +kernel
theorem d_Draws_playHole_98 : decode prog_4_method_7_code 98 = .ok (.goto 6, 3) := by decide +kernel
theorem d_Draws_playHole_101 : decode prog_4_method_7_code 101 = .ok (.iload 5, 2) := by decide +kernel
theorem d_Draws_playHole_103 : decode prog_4_method_7_code 103 = .ok (.istore_n 2, 1) := by decide +kernel
theorem d_Draws_playHole_104 : decode prog_4_method_7_code 104 = .ok (.iinc 3 1, 3) := by decide +kernel
theorem d_Draws_playHole_107 : decode prog_4_method_7_code 107 = .ok (.goto (-103), 3) := by decide +kernel
theorem d_Draws_playHole_110 : decode prog_4_method_7_code 110 = .ok (.aload_n 0, 1) := by decide +kernel
theorem d_Draws_playHole_111 : decode prog_4_method_7_code 111 = .ok (.dup, 1) := by decide +kernel
theorem d_Draws_playHole_112 : decode prog_4_method_7_code 112 = .ok (.getfield 15, 3) := by decide +kernel
theorem d_Draws_playHole_115 : decode prog_4_method_7_code 115 = .ok (.aload_n 0, 1) := by decide +kernel
theorem d_Draws_playHole_116 : decode prog_4_method_7_code 116 = .ok (.getfield 21, 3) := by decide +kernel
theorem d_Draws_playHole_119 : decode prog_4_method_7_code 119 = .ok (.iload_n 2, 1) := by decide +kernel
theorem d_Draws_playHole_120 : decode prog_4_method_7_code 120 = .ok (.invokevirtual 67, 3) := by decide +kernel
theorem d_Draws_playHole_123 : decode prog_4_method_7_code 123 = .ok (.ifCond .eq 11, 3) := by decide +kernel
theorem d_Draws_playHole_126 : decode prog_4_method_7_code 126 = .ok (.aload_n 0, 1) := by decide +kernel
theorem d_Draws_playHole_127 : decode prog_4_method_7_code 127 = .ok (.iload_n 2, 1) := by decide +kernel
theorem d_Draws_playHole_128 : decode prog_4_method_7_code 128 = .ok (.invokevirtual 84, 3) := by decide +kernel
theorem d_Draws_playHole_131 : decode prog_4_method_7_code 131 = .ok (.goto 4, 3) := by decide +kernel
theorem d_Draws_playHole_134 : decode prog_4_method_7_code 134 = .ok (.iconst 5, 1) := by decide +kernel
theorem d_Draws_playHole_135 : decode prog_4_method_7_code 135 = .ok (.iadd, 1) := by decide +kernel
theorem d_Draws_playHole_136 : decode prog_4_method_7_code 136 = .ok (.putfield 15, 3) := by decide +kernel
theorem d_Draws_playHole_139 : decode prog_4_method_7_code 139 = .ok (.return_, 1) := by decide +kernel
theorem b_Draws_playHole_0 {d : Nat} {x1 : Int32} {h : am_H} {Q : am_Q} (k : am_W (X_Draws_playHole d) 4 [some (.ref 18), some (.int x1), some (.int 0), some (.int 0), none, none] [] h Q) : am_W (X_Draws_playHole d) 0 [some (.ref 18), some (.int x1), none, none, none, none] [] h Q :=
  am_iconst (v := 0) d_Draws_playHole_0 (by decide) <|
    am_istore_n (ls' := [some (.ref 18), some (.int x1), some (.int 0), none, none, none]) d_Draws_playHole_1 rfl (Nat.le_of_ble_eq_true rfl) rfl <|
    am_iconst (v := 0) d_Draws_playHole_2 (by decide) <|
    am_istore_n (ls' := [some (.ref 18), some (.int x1), some (.int 0), some (.int 0), none, none]) d_Draws_playHole_3 rfl (Nat.le_of_ble_eq_true rfl) rfl <|
    k
theorem b_Draws_playHole_4 {d : Nat} {x1 : Int32} {x2 : Int32} {x3 : Int32} {h : am_H} {Q : am_Q} (kt : 12 ≤ x3 → am_W (X_Draws_playHole d) 110 [some (.ref 18), some (.int x1), some (.int x2), some (.int x3), none, none] [] h Q) (kf : ¬ 12 ≤ x3 → am_W (X_Draws_playHole d) 10 [some (.ref 18), some (.int x1), some (.int x2), some (.int x3), none, none] [] h Q) : am_W (X_Draws_playHole d) 4 [some (.ref 18), some (.int x1), some (.int x2), some (.int x3), none, none] [] h Q :=
  am_iload_n d_Draws_playHole_4 rfl (i := 3) rfl <|
    am_bipush (v := 12) d_Draws_playHole_5 (by decide) <|
    am_icmp_ge (tgt := 110) d_Draws_playHole_7 (by decide) kt kf
theorem b_Draws_playHole_10 {d : Nat} {x1 : Int32} {x2 : Int32} {x3 : Int32} {h : am_H} {Q : am_Q} (k : m_Hole_isGreen d [.ref 1, .int x2] h (fun r hh => am_W (X_Draws_playHole (d + 1)) 18 [some (.ref 18), some (.int x1), some (.int x2), some (.int x3), none, none] (r.toList ++ []) hh Q)) : am_W (X_Draws_playHole (d + 1)) 10 [some (.ref 18), some (.int x1), some (.int x2), some (.int x3), none, none] [] h Q :=
  am_aload_n d_Draws_playHole_10 rfl (i := 0) rfl <|
    am_getR (ci := 5) (i := 0) rfl rfl rfl (Nat.le_of_ble_eq_true rfl) w_260 d_Draws_playHole_11 <|
    am_iload_n d_Draws_playHole_14 rfl (i := 2) rfl <|
    am_callV (vs := [.int x2]) (st := []) (k := 1) (ci := 1) rfl d_Draws_playHole_15 rfl rfl w_1013 w_675 w_676 w_84 w_677 p_Hole_isGreen (Nat.le_of_ble_eq_true rfl) (Nat.le_of_ble_eq_true rfl) rfl k
theorem b_Draws_playHole_18 {d : Nat} {x1 : Int32} {x2 : Int32} {x3 : Int32} {y0 : Bool} {h : am_H} {Q : am_Q} (kt : ¬ (am_b y0) = 0 → am_W (X_Draws_playHole d) 110 [some (.ref 18), some (.int x1), some (.int x2), some (.int x3), none, none] [] h Q) (kf : (am_b y0) = 0 → am_W (X_Draws_playHole d) 21 [some (.ref 18), some (.int x1), some (.int x2), some (.int x3), none, none] [] h Q) : am_W (X_Draws_playHole d) 18 [some (.ref 18), some (.int x1), some (.int x2), some (.int x3), none, none] [.int (am_b y0)] h Q :=
  am_if_ne (tgt := 110) d_Draws_playHole_18 (by decide) kt kf
theorem b_Draws_playHole_21 {d : Nat} {x1 : Int32} {x2 : Int32} {x3 : Int32} {h : am_H} {Q : am_Q} (kt : ¬ x1 = 0 → am_W (X_Draws_playHole d) 37 [some (.ref 18), some (.int x1), some (.int x2), some (.int x3), none, none] [] h Q) (kf : x1 = 0 → am_W (X_Draws_playHole d) 25 [some (.ref 18), some (.int x1), some (.int x2), some (.int x3), none, none] [] h Q) : am_W (X_Draws_playHole d) 21 [some (.ref 18), some (.int x1), some (.int x2), some (.int x3), none, none] [] h Q :=
  am_iload_n d_Draws_playHole_21 rfl (i := 1) rfl <|
    am_if_ne (tgt := 37) d_Draws_playHole_22 (by decide) kt kf
theorem b_Draws_playHole_25 {d : Nat} {x1 : Int32} {x2 : Int32} {x3 : Int32} {h : am_H} {Q : am_Q} (k : m_Reck_bestClub d [.ref 12, .int x2, .int 3] h (fun r hh => am_W (X_Draws_playHole (d + 1)) 34 [some (.ref 18), some (.int x1), some (.int x2), some (.int x3), none, none] (r.toList ++ []) hh Q)) : am_W (X_Draws_playHole (d + 1)) 25 [some (.ref 18), some (.int x1), some (.int x2), some (.int x3), none, none] [] h Q :=
  am_aload_n d_Draws_playHole_25 rfl (i := 0) rfl <|
    am_getR (ci := 5) (i := 1) rfl rfl rfl (Nat.le_of_ble_eq_true rfl) w_261 d_Draws_playHole_26 <|
    am_iload_n d_Draws_playHole_29 rfl (i := 2) rfl <|
    am_iconst (v := 3) d_Draws_playHole_30 (by decide) <|
    am_callV (vs := [.int x2, .int 3]) (st := []) (k := 12) (ci := 3) rfl d_Draws_playHole_31 rfl rfl w_1014 w_851 w_852 w_87 w_853 p_Reck_bestClub (Nat.le_of_ble_eq_true rfl) (Nat.le_of_ble_eq_true rfl) rfl k
theorem b_Draws_playHole_34 {d : Nat} {x1 : Int32} {x2 : Int32} {x3 : Int32} {y0 : Int32} {h : am_H} {Q : am_Q} (k : am_W (X_Draws_playHole d) 45 [some (.ref 18), some (.int x1), some (.int x2), some (.int x3), none, none] [.int y0] h Q) : am_W (X_Draws_playHole d) 34 [some (.ref 18), some (.int x1), some (.int x2), some (.int x3), none, none] [.int y0] h Q :=
  am_goto (tgt := 45) d_Draws_playHole_34 (by decide) k
theorem b_Draws_playHole_37 {d : Nat} {x1 : Int32} {x2 : Int32} {x3 : Int32} {h : am_H} {Q : am_Q} (k : m_Reck_lawfulClub d [.ref 12, .int x2] h (fun r hh => am_W (X_Draws_playHole (d + 1)) 45 [some (.ref 18), some (.int x1), some (.int x2), some (.int x3), none, none] (r.toList ++ []) hh Q)) : am_W (X_Draws_playHole (d + 1)) 37 [some (.ref 18), some (.int x1), some (.int x2), some (.int x3), none, none] [] h Q :=
  am_aload_n d_Draws_playHole_37 rfl (i := 0) rfl <|
    am_getR (ci := 5) (i := 1) rfl rfl rfl (Nat.le_of_ble_eq_true rfl) w_261 d_Draws_playHole_38 <|
    am_iload_n d_Draws_playHole_41 rfl (i := 2) rfl <|
    am_callV (vs := [.int x2]) (st := []) (k := 12) (ci := 3) rfl d_Draws_playHole_42 rfl rfl w_1015 w_832 w_833 w_87 w_834 p_Reck_lawfulClub (Nat.le_of_ble_eq_true rfl) (Nat.le_of_ble_eq_true rfl) rfl k
theorem b_Draws_playHole_45 {d : Nat} {x1 : Int32} {x2 : Int32} {x3 : Int32} {y0 : Int32} {h : am_H} {Q : am_Q} (k : m_Draws_fall d [.ref 18, .int x2, .int y0] h (fun r hh => am_W (X_Draws_playHole (d + 1)) 54 [some (.ref 18), some (.int x1), some (.int x2), some (.int x3), some (.int y0), none] (r.toList ++ []) hh Q)) : am_W (X_Draws_playHole (d + 1)) 45 [some (.ref 18), some (.int x1), some (.int x2), some (.int x3), none, none] [.int y0] h Q :=
  am_istore (ls' := [some (.ref 18), some (.int x1), some (.int x2), some (.int x3), some (.int y0), none]) d_Draws_playHole_45 (Nat.le_of_ble_eq_true rfl) rfl <|
    am_aload_n d_Draws_playHole_47 rfl (i := 0) rfl <|
    am_iload_n d_Draws_playHole_48 rfl (i := 2) rfl <|
    am_iload d_Draws_playHole_49 rfl <|
    am_callV (vs := [.int x2, .int y0]) (st := []) (k := 18) (ci := 5) rfl d_Draws_playHole_51 rfl rfl w_1016 w_1017 w_1018 w_89 w_1019 p_Draws_fall (Nat.le_of_ble_eq_true rfl) (Nat.le_of_ble_eq_true rfl) rfl k
theorem b_Draws_playHole_54 {d : Nat} {x1 : Int32} {x2 : Int32} {x3 : Int32} {x4 : Int32} {y0 : Int32} {h : am_H} {Q : am_Q} (k : m_Hole_isWater d [.ref 1, .int y0] (am_pI h 18 3 ((h.1 18 3) + 1)) (fun r hh => am_W (X_Draws_playHole (d + 1)) 75 [some (.ref 18), some (.int x1), some (.int x2), some (.int x3), some (.int x4), some (.int y0)] (r.toList ++ []) hh Q)) : am_W (X_Draws_playHole (d + 1)) 54 [some (.ref 18), some (.int x1), some (.int x2), some (.int x3), some (.int x4), none] [.int y0] h Q :=
  am_istore (ls' := [some (.ref 18), some (.int x1), some (.int x2), some (.int x3), some (.int x4), some (.int y0)]) d_Draws_playHole_54 (Nat.le_of_ble_eq_true rfl) rfl <|
    am_aload_n d_Draws_playHole_56 rfl (i := 0) rfl <|
    am_dupR d_Draws_playHole_57 <|
    am_getI (ci := 5) (i := 3) rfl rfl rfl (Nat.le_of_ble_eq_true rfl) w_263 d_Draws_playHole_58 <|
    am_iconst (v := 1) d_Draws_playHole_61 (by decide) <|
    am_iadd d_Draws_playHole_62 <|
    am_putI (ci := 5) (i := 3) rfl rfl rfl (Nat.le_of_ble_eq_true rfl) w_263 rfl rfl rfl d_Draws_playHole_63 <|
    am_aload_n d_Draws_playHole_66 rfl (i := 0) rfl <|
    am_getR (ci := 5) (i := 0) rfl rfl rfl (Nat.le_of_ble_eq_true rfl) w_260 d_Draws_playHole_67 <|
    am_iload d_Draws_playHole_70 rfl <|
    am_callV (vs := [.int y0]) (st := []) (k := 1) (ci := 1) rfl d_Draws_playHole_72 rfl rfl w_1030 w_704 w_705 w_84 w_706 p_Hole_isWater (Nat.le_of_ble_eq_true rfl) (Nat.le_of_ble_eq_true rfl) rfl k
theorem b_Draws_playHole_75 {d : Nat} {x1 : Int32} {x2 : Int32} {x3 : Int32} {x4 : Int32} {x5 : Int32} {y0 : Bool} {h : am_H} {Q : am_Q} (kt : (am_b y0) = 0 → am_W (X_Draws_playHole d) 101 [some (.ref 18), some (.int x1), some (.int x2), some (.int x3), some (.int x4), some (.int x5)] [] h Q) (kf : ¬ (am_b y0) = 0 → am_W (X_Draws_playHole d) 78 [some (.ref 18), some (.int x1), some (.int x2), some (.int x3), some (.int x4), some (.int x5)] [] h Q) : am_W (X_Draws_playHole d) 75 [some (.ref 18), some (.int x1), some (.int x2), some (.int x3), some (.int x4), some (.int x5)] [.int (am_b y0)] h Q :=
  am_if_eq (tgt := 101) d_Draws_playHole_75 (by decide) kt kf
theorem b_Draws_playHole_78 {d : Nat} {x1 : Int32} {x2 : Int32} {x3 : Int32} {x4 : Int32} {x5 : Int32} {h : am_H} {Q : am_Q} (k : am_W (X_Draws_playHole d) 104 [some (.ref 18), some (.int x1), some (.int x2), some (.int x3), some (.int x4), some (.int x5)] [] (am_pI (am_pI h 18 3 ((h.1 18 3) + 1)) 18 4 (((am_pI h 18 3 ((h.1 18 3) + 1)).1 18 4) + 1)) Q) : am_W (X_Draws_playHole d) 78 [some (.ref 18), some (.int x1), some (.int x2), some (.int x3), some (.int x4), some (.int x5)] [] h Q :=
  am_aload_n d_Draws_playHole_78 rfl (i := 0) rfl <|
    am_dupR d_Draws_playHole_79 <|
    am_getI (ci := 5) (i := 3) rfl rfl rfl (Nat.le_of_ble_eq_true rfl) w_263 d_Draws_playHole_80 <|
    am_iconst (v := 1) d_Draws_playHole_83 (by decide) <|
    am_iadd d_Draws_playHole_84 <|
    am_putI (ci := 5) (i := 3) rfl rfl rfl (Nat.le_of_ble_eq_true rfl) w_263 rfl rfl rfl d_Draws_playHole_85 <|
    am_aload_n d_Draws_playHole_88 rfl (i := 0) rfl <|
    am_dupR d_Draws_playHole_89 <|
    am_getI (ci := 5) (i := 4) rfl rfl rfl (Nat.le_of_ble_eq_true rfl) w_264 d_Draws_playHole_90 <|
    am_iconst (v := 1) d_Draws_playHole_93 (by decide) <|
    am_iadd d_Draws_playHole_94 <|
    am_putI (ci := 5) (i := 4) rfl rfl rfl (Nat.le_of_ble_eq_true rfl) w_264 rfl rfl rfl d_Draws_playHole_95 <|
    am_goto (tgt := 104) d_Draws_playHole_98 (by decide) k
theorem b_Draws_playHole_101 {d : Nat} {x1 : Int32} {x2 : Int32} {x3 : Int32} {x4 : Int32} {x5 : Int32} {h : am_H} {Q : am_Q} (k : am_W (X_Draws_playHole d) 104 [some (.ref 18), some (.int x1), some (.int x5), some (.int x3), some (.int x4), some (.int x5)] [] h Q) : am_W (X_Draws_playHole d) 101 [some (.ref 18), some (.int x1), some (.int x2), some (.int x3), some (.int x4), some (.int x5)] [] h Q :=
  am_iload d_Draws_playHole_101 rfl <|
    am_istore_n (ls' := [some (.ref 18), some (.int x1), some (.int x5), some (.int x3), some (.int x4), some (.int x5)]) d_Draws_playHole_103 rfl (Nat.le_of_ble_eq_true rfl) rfl <|
    k
theorem b_Draws_playHole_104 {d : Nat} {x1 : Int32} {x2 : Int32} {x3 : Int32} {x4 : Int32} {x5 : Int32} {h : am_H} {Q : am_Q} (k : am_W (X_Draws_playHole d) 4 [some (.ref 18), some (.int x1), some (.int x2), some (.int (x3 + 1)), some (.int x4), some (.int x5)] [] h Q) : am_W (X_Draws_playHole d) 104 [some (.ref 18), some (.int x1), some (.int x2), some (.int x3), some (.int x4), some (.int x5)] [] h Q :=
  am_iinc (v := (x3 + 1)) (ls' := [some (.ref 18), some (.int x1), some (.int x2), some (.int (x3 + 1)), some (.int x4), some (.int x5)]) d_Draws_playHole_104 rfl rfl (Nat.le_of_ble_eq_true rfl) rfl <|
    am_goto (tgt := 4) d_Draws_playHole_107 (by decide) k
theorem b_Draws_playHole_110 {d : Nat} {x1 : Int32} {x2 : Int32} {x3 : Int32} {h : am_H} {Q : am_Q} (k : m_Hole_isGreen d [.ref 1, .int x2] h (fun r hh => am_W (X_Draws_playHole (d + 1)) 123 [some (.ref 18), some (.int x1), some (.int x2), some (.int x3), none, none] (r.toList ++ [.int (h.1 18 3), .ref 18]) hh Q)) : am_W (X_Draws_playHole (d + 1)) 110 [some (.ref 18), some (.int x1), some (.int x2), some (.int x3), none, none] [] h Q :=
  am_aload_n d_Draws_playHole_110 rfl (i := 0) rfl <|
    am_dupR d_Draws_playHole_111 <|
    am_getI (ci := 5) (i := 3) rfl rfl rfl (Nat.le_of_ble_eq_true rfl) w_263 d_Draws_playHole_112 <|
    am_aload_n d_Draws_playHole_115 rfl (i := 0) rfl <|
    am_getR (ci := 5) (i := 0) rfl rfl rfl (Nat.le_of_ble_eq_true rfl) w_260 d_Draws_playHole_116 <|
    am_iload_n d_Draws_playHole_119 rfl (i := 2) rfl <|
    am_callV (vs := [.int x2]) (st := [.int (h.1 18 3), .ref 18]) (k := 1) (ci := 1) rfl d_Draws_playHole_120 rfl rfl w_1013 w_675 w_676 w_84 w_677 p_Hole_isGreen (Nat.le_of_ble_eq_true rfl) (Nat.le_of_ble_eq_true rfl) rfl k
theorem b_Draws_playHole_123 {d : Nat} {x1 : Int32} {x2 : Int32} {x3 : Int32} {y2 : Bool} {y1 : Int32} {h : am_H} {Q : am_Q} (kt : (am_b y2) = 0 → am_W (X_Draws_playHole d) 134 [some (.ref 18), some (.int x1), some (.int x2), some (.int x3), none, none] [.int y1, .ref 18] h Q) (kf : ¬ (am_b y2) = 0 → am_W (X_Draws_playHole d) 126 [some (.ref 18), some (.int x1), some (.int x2), some (.int x3), none, none] [.int y1, .ref 18] h Q) : am_W (X_Draws_playHole d) 123 [some (.ref 18), some (.int x1), some (.int x2), some (.int x3), none, none] [.int (am_b y2), .int y1, .ref 18] h Q :=
  am_if_eq (tgt := 134) d_Draws_playHole_123 (by decide) kt kf
theorem b_Draws_playHole_126 {d : Nat} {x1 : Int32} {x2 : Int32} {x3 : Int32} {y1 : Int32} {h : am_H} {Q : am_Q} (k : m_Draws_puttsFrom d [.ref 18, .int x2] h (fun r hh => am_W (X_Draws_playHole (d + 1)) 131 [some (.ref 18), some (.int x1), some (.int x2), some (.int x3), none, none] (r.toList ++ [.int y1, .ref 18]) hh Q)) : am_W (X_Draws_playHole (d + 1)) 126 [some (.ref 18), some (.int x1), some (.int x2), some (.int x3), none, none] [.int y1, .ref 18] h Q :=
  am_aload_n d_Draws_playHole_126 rfl (i := 0) rfl <|
    am_iload_n d_Draws_playHole_127 rfl (i := 2) rfl <|
    am_callV (vs := [.int x2]) (st := [.int y1, .ref 18]) (k := 18) (ci := 5) rfl d_Draws_playHole_128 rfl rfl w_1031 w_1032 w_1033 w_89 w_1034 p_Draws_puttsFrom (Nat.le_of_ble_eq_true rfl) (Nat.le_of_ble_eq_true rfl) rfl k
theorem b_Draws_playHole_131 {d : Nat} {x1 : Int32} {x2 : Int32} {x3 : Int32} {y2 : Int32} {y1 : Int32} {h : am_H} {Q : am_Q} (k : am_W (X_Draws_playHole d) 135 [some (.ref 18), some (.int x1), some (.int x2), some (.int x3), none, none] [.int y2, .int y1, .ref 18] h Q) : am_W (X_Draws_playHole d) 131 [some (.ref 18), some (.int x1), some (.int x2), some (.int x3), none, none] [.int y2, .int y1, .ref 18] h Q :=
  am_goto (tgt := 135) d_Draws_playHole_131 (by decide) k
theorem b_Draws_playHole_134 {d : Nat} {x1 : Int32} {x2 : Int32} {x3 : Int32} {y1 : Int32} {h : am_H} {Q : am_Q} (k : am_W (X_Draws_playHole d) 135 [some (.ref 18), some (.int x1), some (.int x2), some (.int x3), none, none] [.int 5, .int y1, .ref 18] h Q) : am_W (X_Draws_playHole d) 134 [some (.ref 18), some (.int x1), some (.int x2), some (.int x3), none, none] [.int y1, .ref 18] h Q :=
  am_iconst (v := 5) d_Draws_playHole_134 (by decide) <|
    k
theorem b_Draws_playHole_135 {d : Nat} {x1 : Int32} {x2 : Int32} {x3 : Int32} {y2 : Int32} {y1 : Int32} {h : am_H} {Q : am_Q} (q : Q none (am_pI h 18 3 (y1 + y2))) : am_W (X_Draws_playHole d) 135 [some (.ref 18), some (.int x1), some (.int x2), some (.int x3), none, none] [.int y2, .int y1, .ref 18] h Q :=
  am_iadd d_Draws_playHole_135 <|
    am_putI (ci := 5) (i := 3) rfl rfl rfl (Nat.le_of_ble_eq_true rfl) w_263 rfl rfl rfl d_Draws_playHole_136 <|
    am_vret rfl d_Draws_playHole_139 q
theorem t_Draws_playHole_135 {d : Nat} {x1 : Int32} {x2 : Int32} {x3 : Int32} {y2 : Int32} {y1 : Int32} {h : am_H} {Q : am_Q} {res : am_H} (e : f_Draws_playHole_135 h y2 y1 = some res) (q : Q none res) : am_W (X_Draws_playHole (d + 4)) 135 [some (.ref 18), some (.int x1), some (.int x2), some (.int x3), none, none] [.int y2, .int y1, .ref 18] h Q :=
  b_Draws_playHole_135 (d := (d + 4)) (q := (am_rVpi e q))
theorem t_Draws_playHole_134 {d : Nat} {x1 : Int32} {x2 : Int32} {x3 : Int32} {y1 : Int32} {h : am_H} {Q : am_Q} {res : am_H} (e : f_Draws_playHole_134 h y1 = some res) (q : Q none res) : am_W (X_Draws_playHole (d + 4)) 134 [some (.ref 18), some (.int x1), some (.int x2), some (.int x3), none, none] [.int y1, .ref 18] h Q :=
  b_Draws_playHole_134 (d := (d + 4)) (k := (t_Draws_playHole_135 e q))
theorem t_Draws_playHole_131 {d : Nat} {x1 : Int32} {x2 : Int32} {x3 : Int32} {y2 : Int32} {y1 : Int32} {h : am_H} {Q : am_Q} {res : am_H} (e : f_Draws_playHole_131 h y2 y1 = some res) (q : Q none res) : am_W (X_Draws_playHole (d + 4)) 131 [some (.ref 18), some (.int x1), some (.int x2), some (.int x3), none, none] [.int y2, .int y1, .ref 18] h Q :=
  b_Draws_playHole_131 (d := (d + 4)) (k := (t_Draws_playHole_135 e q))
theorem t_Draws_playHole_126 {d : Nat} {x1 : Int32} {x2 : Int32} {x3 : Int32} {y1 : Int32} {h : am_H} {Q : am_Q} {res : am_H} (e : f_Draws_playHole_126 h x2 y1 = some res) (q : Q none res) : am_W (X_Draws_playHole (d + 4)) 126 [some (.ref 18), some (.int x1), some (.int x2), some (.int x3), none, none] [.int y1, .ref 18] h Q :=
  (am_bd e).elim fun p hp => b_Draws_playHole_126 (d := (d + 3)) (k := c_Draws_puttsFrom (d := d + 2) hp.1 (t_Draws_playHole_131 hp.2 q))
theorem t_Draws_playHole_123 {d : Nat} {x1 : Int32} {x2 : Int32} {x3 : Int32} {y2 : Bool} {y1 : Int32} {h : am_H} {Q : am_Q} {res : am_H} (e : f_Draws_playHole_123 h x2 y2 y1 = some res) (q : Q none res) : am_W (X_Draws_playHole (d + 4)) 123 [some (.ref 18), some (.int x1), some (.int x2), some (.int x3), none, none] [.int (am_b y2), .int y1, .ref 18] h Q :=
  b_Draws_playHole_123 (d := (d + 4)) (kt := fun c => (t_Draws_playHole_134 (am_iff e (am_bz c)) q)) (kf := fun c => (t_Draws_playHole_126 (am_ift e (am_bn c)) q))
theorem t_Draws_playHole_110 {d : Nat} {x1 : Int32} {x2 : Int32} {x3 : Int32} {h : am_H} {Q : am_Q} {res : am_H} (e : f_Draws_playHole_110 h x2 = some res) (q : Q none res) : am_W (X_Draws_playHole (d + 4)) 110 [some (.ref 18), some (.int x1), some (.int x2), some (.int x3), none, none] [] h Q :=
  (am_bd e).elim fun p hp => b_Draws_playHole_110 (d := (d + 3)) (k := c_Hole_isGreen (d := d + 2) hp.1 (t_Draws_playHole_123 hp.2 q))
theorem t_Draws_playHole_104 {d : Nat} {k4 : am_H → Int32 → Int32 → Int32 → Option (am_H)} {x1 : Int32} {x2 : Int32} {x3 : Int32} {x4 : Int32} {x5 : Int32} {h : am_H} {Q : am_Q} {res : am_H} (hk4 : ∀ (x1 : Int32) (x2 : Int32) (x3 : Int32) (h : am_H), k4 h x1 x2 x3 = some res → am_W (X_Draws_playHole (d + 4)) 4 [some (.ref 18), some (.int x1), some (.int x2), some (.int x3), none, none] [] h Q) (e : f_Draws_playHole_104 k4 h x1 x2 x3 = some res) (q : Q none res) : am_W (X_Draws_playHole (d + 4)) 104 [some (.ref 18), some (.int x1), some (.int x2), some (.int x3), some (.int x4), some (.int x5)] [] h Q :=
  b_Draws_playHole_104 (d := (d + 4)) (k := (am_wk2 (hk4 _ _ _ _ e) ⟨rfl, ⟨rfl, ⟨rfl, ⟨rfl, trivial⟩⟩⟩⟩))
theorem t_Draws_playHole_101 {d : Nat} {k4 : am_H → Int32 → Int32 → Int32 → Option (am_H)} {x1 : Int32} {x2 : Int32} {x3 : Int32} {x4 : Int32} {x5 : Int32} {h : am_H} {Q : am_Q} {res : am_H} (hk4 : ∀ (x1 : Int32) (x2 : Int32) (x3 : Int32) (h : am_H), k4 h x1 x2 x3 = some res → am_W (X_Draws_playHole (d + 4)) 4 [some (.ref 18), some (.int x1), some (.int x2), some (.int x3), none, none] [] h Q) (e : f_Draws_playHole_101 k4 h x1 x3 x5 = some res) (q : Q none res) : am_W (X_Draws_playHole (d + 4)) 101 [some (.ref 18), some (.int x1), some (.int x2), some (.int x3), some (.int x4), some (.int x5)] [] h Q :=
  b_Draws_playHole_101 (d := (d + 4)) (k := (t_Draws_playHole_104 hk4 e q))
theorem t_Draws_playHole_78 {d : Nat} {k4 : am_H → Int32 → Int32 → Int32 → Option (am_H)} {x1 : Int32} {x2 : Int32} {x3 : Int32} {x4 : Int32} {x5 : Int32} {h : am_H} {Q : am_Q} {res : am_H} (hk4 : ∀ (x1 : Int32) (x2 : Int32) (x3 : Int32) (h : am_H), k4 h x1 x2 x3 = some res → am_W (X_Draws_playHole (d + 4)) 4 [some (.ref 18), some (.int x1), some (.int x2), some (.int x3), none, none] [] h Q) (e : f_Draws_playHole_78 k4 h x1 x2 x3 = some res) (q : Q none res) : am_W (X_Draws_playHole (d + 4)) 78 [some (.ref 18), some (.int x1), some (.int x2), some (.int x3), some (.int x4), some (.int x5)] [] h Q :=
  b_Draws_playHole_78 (d := (d + 4)) (k := (t_Draws_playHole_104 hk4 e q))
theorem t_Draws_playHole_75 {d : Nat} {k4 : am_H → Int32 → Int32 → Int32 → Option (am_H)} {x1 : Int32} {x2 : Int32} {x3 : Int32} {x4 : Int32} {x5 : Int32} {y0 : Bool} {h : am_H} {Q : am_Q} {res : am_H} (hk4 : ∀ (x1 : Int32) (x2 : Int32) (x3 : Int32) (h : am_H), k4 h x1 x2 x3 = some res → am_W (X_Draws_playHole (d + 4)) 4 [some (.ref 18), some (.int x1), some (.int x2), some (.int x3), none, none] [] h Q) (e : f_Draws_playHole_75 k4 h x1 x2 x3 x5 y0 = some res) (q : Q none res) : am_W (X_Draws_playHole (d + 4)) 75 [some (.ref 18), some (.int x1), some (.int x2), some (.int x3), some (.int x4), some (.int x5)] [.int (am_b y0)] h Q :=
  b_Draws_playHole_75 (d := (d + 4)) (kt := fun c => (t_Draws_playHole_101 hk4 (am_iff e (am_bz c)) q)) (kf := fun c => (t_Draws_playHole_78 hk4 (am_ift e (am_bn c)) q))
theorem t_Draws_playHole_54 {d : Nat} {k4 : am_H → Int32 → Int32 → Int32 → Option (am_H)} {x1 : Int32} {x2 : Int32} {x3 : Int32} {x4 : Int32} {y0 : Int32} {h : am_H} {Q : am_Q} {res : am_H} (hk4 : ∀ (x1 : Int32) (x2 : Int32) (x3 : Int32) (h : am_H), k4 h x1 x2 x3 = some res → am_W (X_Draws_playHole (d + 4)) 4 [some (.ref 18), some (.int x1), some (.int x2), some (.int x3), none, none] [] h Q) (e : f_Draws_playHole_54 k4 h x1 x2 x3 y0 = some res) (q : Q none res) : am_W (X_Draws_playHole (d + 4)) 54 [some (.ref 18), some (.int x1), some (.int x2), some (.int x3), some (.int x4), none] [.int y0] h Q :=
  (am_bd e).elim fun p hp => b_Draws_playHole_54 (d := (d + 3)) (k := c_Hole_isWater (d := d + 2) hp.1 (t_Draws_playHole_75 hk4 hp.2 q))
theorem t_Draws_playHole_45 {d : Nat} {k4 : am_H → Int32 → Int32 → Int32 → Option (am_H)} {x1 : Int32} {x2 : Int32} {x3 : Int32} {y0 : Int32} {h : am_H} {Q : am_Q} {res : am_H} (hk4 : ∀ (x1 : Int32) (x2 : Int32) (x3 : Int32) (h : am_H), k4 h x1 x2 x3 = some res → am_W (X_Draws_playHole (d + 4)) 4 [some (.ref 18), some (.int x1), some (.int x2), some (.int x3), none, none] [] h Q) (e : f_Draws_playHole_45 k4 h x1 x2 x3 y0 = some res) (q : Q none res) : am_W (X_Draws_playHole (d + 4)) 45 [some (.ref 18), some (.int x1), some (.int x2), some (.int x3), none, none] [.int y0] h Q :=
  (am_bd e).elim fun p hp => b_Draws_playHole_45 (d := (d + 3)) (k := c_Draws_fall (d := d) hp.1 (t_Draws_playHole_54 hk4 hp.2 q))
theorem t_Draws_playHole_37 {d : Nat} {k4 : am_H → Int32 → Int32 → Int32 → Option (am_H)} {x1 : Int32} {x2 : Int32} {x3 : Int32} {h : am_H} {Q : am_Q} {res : am_H} (hk4 : ∀ (x1 : Int32) (x2 : Int32) (x3 : Int32) (h : am_H), k4 h x1 x2 x3 = some res → am_W (X_Draws_playHole (d + 4)) 4 [some (.ref 18), some (.int x1), some (.int x2), some (.int x3), none, none] [] h Q) (e : f_Draws_playHole_37 k4 h x1 x2 x3 = some res) (q : Q none res) : am_W (X_Draws_playHole (d + 4)) 37 [some (.ref 18), some (.int x1), some (.int x2), some (.int x3), none, none] [] h Q :=
  (am_bd e).elim fun p hp => b_Draws_playHole_37 (d := (d + 3)) (k := c_Reck_lawfulClub (d := d + 3) hp.1 (t_Draws_playHole_45 hk4 hp.2 q))
theorem t_Draws_playHole_34 {d : Nat} {k4 : am_H → Int32 → Int32 → Int32 → Option (am_H)} {x1 : Int32} {x2 : Int32} {x3 : Int32} {y0 : Int32} {h : am_H} {Q : am_Q} {res : am_H} (hk4 : ∀ (x1 : Int32) (x2 : Int32) (x3 : Int32) (h : am_H), k4 h x1 x2 x3 = some res → am_W (X_Draws_playHole (d + 4)) 4 [some (.ref 18), some (.int x1), some (.int x2), some (.int x3), none, none] [] h Q) (e : f_Draws_playHole_34 k4 h x1 x2 x3 y0 = some res) (q : Q none res) : am_W (X_Draws_playHole (d + 4)) 34 [some (.ref 18), some (.int x1), some (.int x2), some (.int x3), none, none] [.int y0] h Q :=
  b_Draws_playHole_34 (d := (d + 4)) (k := (t_Draws_playHole_45 hk4 e q))
theorem t_Draws_playHole_25 {d : Nat} {k4 : am_H → Int32 → Int32 → Int32 → Option (am_H)} {x1 : Int32} {x2 : Int32} {x3 : Int32} {h : am_H} {Q : am_Q} {res : am_H} (hk4 : ∀ (x1 : Int32) (x2 : Int32) (x3 : Int32) (h : am_H), k4 h x1 x2 x3 = some res → am_W (X_Draws_playHole (d + 4)) 4 [some (.ref 18), some (.int x1), some (.int x2), some (.int x3), none, none] [] h Q) (e : f_Draws_playHole_25 k4 h x1 x2 x3 = some res) (q : Q none res) : am_W (X_Draws_playHole (d + 4)) 25 [some (.ref 18), some (.int x1), some (.int x2), some (.int x3), none, none] [] h Q :=
  (am_bd e).elim fun p hp => b_Draws_playHole_25 (d := (d + 3)) (k := c_Reck_bestClub (d := d + 3) hp.1 (t_Draws_playHole_34 hk4 hp.2 q))
theorem t_Draws_playHole_21 {d : Nat} {k4 : am_H → Int32 → Int32 → Int32 → Option (am_H)} {x1 : Int32} {x2 : Int32} {x3 : Int32} {h : am_H} {Q : am_Q} {res : am_H} (hk4 : ∀ (x1 : Int32) (x2 : Int32) (x3 : Int32) (h : am_H), k4 h x1 x2 x3 = some res → am_W (X_Draws_playHole (d + 4)) 4 [some (.ref 18), some (.int x1), some (.int x2), some (.int x3), none, none] [] h Q) (e : f_Draws_playHole_21 k4 h x1 x2 x3 = some res) (q : Q none res) : am_W (X_Draws_playHole (d + 4)) 21 [some (.ref 18), some (.int x1), some (.int x2), some (.int x3), none, none] [] h Q :=
  b_Draws_playHole_21 (d := (d + 4)) (kt := fun c => (t_Draws_playHole_37 hk4 (am_ife e c) q)) (kf := fun c => (t_Draws_playHole_25 hk4 (am_ift e c) q))
theorem t_Draws_playHole_18 {d : Nat} {k4 : am_H → Int32 → Int32 → Int32 → Option (am_H)} {x1 : Int32} {x2 : Int32} {x3 : Int32} {y0 : Bool} {h : am_H} {Q : am_Q} {res : am_H} (hk4 : ∀ (x1 : Int32) (x2 : Int32) (x3 : Int32) (h : am_H), k4 h x1 x2 x3 = some res → am_W (X_Draws_playHole (d + 4)) 4 [some (.ref 18), some (.int x1), some (.int x2), some (.int x3), none, none] [] h Q) (e : f_Draws_playHole_18 k4 h x1 x2 x3 y0 = some res) (q : Q none res) : am_W (X_Draws_playHole (d + 4)) 18 [some (.ref 18), some (.int x1), some (.int x2), some (.int x3), none, none] [.int (am_b y0)] h Q :=
  b_Draws_playHole_18 (d := (d + 4)) (kt := fun c => (t_Draws_playHole_110 (am_ift e (am_bn c)) q)) (kf := fun c => (t_Draws_playHole_21 hk4 (am_iff e (am_bz c)) q))
theorem t_Draws_playHole_10 {d : Nat} {k4 : am_H → Int32 → Int32 → Int32 → Option (am_H)} {x1 : Int32} {x2 : Int32} {x3 : Int32} {h : am_H} {Q : am_Q} {res : am_H} (hk4 : ∀ (x1 : Int32) (x2 : Int32) (x3 : Int32) (h : am_H), k4 h x1 x2 x3 = some res → am_W (X_Draws_playHole (d + 4)) 4 [some (.ref 18), some (.int x1), some (.int x2), some (.int x3), none, none] [] h Q) (e : f_Draws_playHole_10 k4 h x1 x2 x3 = some res) (q : Q none res) : am_W (X_Draws_playHole (d + 4)) 10 [some (.ref 18), some (.int x1), some (.int x2), some (.int x3), none, none] [] h Q :=
  (am_bd e).elim fun p hp => b_Draws_playHole_10 (d := (d + 3)) (k := c_Hole_isGreen (d := d + 2) hp.1 (t_Draws_playHole_18 hk4 hp.2 q))
theorem t_Draws_playHole_4 {d : Nat} {k4 : am_H → Int32 → Int32 → Int32 → Option (am_H)} {x1 : Int32} {x2 : Int32} {x3 : Int32} {h : am_H} {Q : am_Q} {res : am_H} (hk4 : ∀ (x1 : Int32) (x2 : Int32) (x3 : Int32) (h : am_H), k4 h x1 x2 x3 = some res → am_W (X_Draws_playHole (d + 4)) 4 [some (.ref 18), some (.int x1), some (.int x2), some (.int x3), none, none] [] h Q) (e : f_Draws_playHole_4 k4 h x1 x2 x3 = some res) (q : Q none res) : am_W (X_Draws_playHole (d + 4)) 4 [some (.ref 18), some (.int x1), some (.int x2), some (.int x3), none, none] [] h Q :=
  b_Draws_playHole_4 (d := (d + 4)) (kt := fun c => (t_Draws_playHole_110 (am_ift e c) q)) (kf := fun c => (t_Draws_playHole_10 hk4 (am_ife e c) q))
theorem t_Draws_playHole_4_l {d : Nat} {Q : am_Q} {res : am_H} (q : Q none res) : ∀ (n : Nat) (x1 : Int32) (x2 : Int32) (x3 : Int32) (h : am_H), f_Draws_playHole_4_l n h x1 x2 x3 = some res → am_W (X_Draws_playHole (d + 4)) 4 [some (.ref 18), some (.int x1), some (.int x2), some (.int x3), none, none] [] h Q := by
  intro n
  induction n with
  | zero => intro x1 x2 x3 h e; exact am_nn e
  | succ n ih => intro x1 x2 x3 h e; exact t_Draws_playHole_4 (fun x1 x2 x3 h e => ih x1 x2 x3 h  e) e q
theorem t_Draws_playHole_0 {d : Nat} {x1 : Int32} {h : am_H} {Q : am_Q} {res : am_H} (e : f_Draws_playHole h x1 = some res) (q : Q none res) : am_W (X_Draws_playHole (d + 4)) 0 [some (.ref 18), some (.int x1), none, none, none, none] [] h Q :=
  b_Draws_playHole_0 (d := (d + 4)) (k := (t_Draws_playHole_4_l q am_fu _ _ _ _ e))
theorem c_Draws_playHole {d : Nat} {x1 : Int32} {h : am_H} {Q : am_Q} {res : am_H} (e : f_Draws_playHole h x1 = some res) (q : Q none res) : m_Draws_playHole (d + 4) [.ref 18, .int x1] h Q :=
  e_Draws_playHole (t_Draws_playHole_0 e q)
theorem d_Draws_playHoles_0 : decode prog_4_method_6_code 0 = .ok (.aload_n 0, 1) := by decide +kernel
theorem d_Draws_playHoles_1 : decode prog_4_method_6_code 1 = .ok (.iload_n 1, 1) := by decide +kernel
theorem d_Draws_playHoles_2 : decode prog_4_method_6_code 2 = .ok (.invokevirtual 60, 3) := by decide +kernel
theorem d_Draws_playHoles_5 : decode prog_4_method_6_code 5 = .ok (.aload_n 0, 1) := by decide +kernel
theorem d_Draws_playHoles_6 : decode prog_4_method_6_code 6 = .ok (.iconst 0, 1) := by decide +kernel
theorem d_Draws_playHoles_7 : decode prog_4_method_6_code 7 = .ok (.putfield 15, 3) := by decide +kernel
theorem d_Draws_playHoles_10 : decode prog_4_method_6_code 10 = .ok (.aload_n 0, 1) := by decide +kernel
theorem d_Draws_playHoles_11 : decode prog_4_method_6_code 11 = .ok (.iconst 0, 1) := by decide +kernel
theorem d_Draws_playHoles_12 : decode prog_4_method_6_code 12 = .ok (.putfield 18, 3) := by decide +kernel
theorem d_Draws_playHoles_15 : decode prog_4_method_6_code 15 = .ok (.iconst 0, 1) := by decide +kernel
theorem d_Draws_playHoles_16 : decode prog_4_method_6_code 16 = .ok (.istore 4, 2) := by decide +kernel
theorem d_Draws_playHoles_18 : decode prog_4_method_6_code 18 = .ok (.iload 4, 2) := by decide +kernel
theorem d_Draws_playHoles_20 : decode prog_4_method_6_code 20 = .ok (.iload_n 2, 1) := by decide +kernel
theorem d_Draws_playHoles_21 : decode prog_4_method_6_code 21 = .ok (.if_icmp .ge 14, 3) := by decide +kernel
theorem d_Draws_playHoles_24 : decode prog_4_method_6_code 24 = .ok (.aload_n 0, 1) := by decide +kernel
theorem d_Draws_playHoles_25 : decode prog_4_method_6_code 25 = .ok (.iload_n 3, 1) := by decide +kernel
theorem d_Draws_playHoles_26 : decode prog_4_method_6_code 26 = .ok (.invokevirtual 64, 3) := by decide +kernel
theorem d_Draws_playHoles_29 : decode prog_4_method_6_code 29 = .ok (.iinc 4 1, 3) := by decide +kernel
theorem d_Draws_playHoles_32 : decode prog_4_method_6_code 32 = .ok (.goto (-14), 3) := by decide +kernel
theorem d_Draws_playHoles_35 : decode prog_4_method_6_code 35 = .ok (.return_, 1) := by decide +kernel
theorem b_Draws_playHoles_0 {d : Nat} {x1 : Int32} {x2 : Int32} {x3 : Int32} {h : am_H} {Q : am_Q} (k : m_Draws_begin d [.ref 18, .int x1] h (fun r hh => am_W (X_Draws_playHoles (d + 1)) 5 [some (.ref 18), some (.int x1), some (.int x2), some (.int x3), none] (r.toList ++ []) hh Q)) : am_W (X_Draws_playHoles (d + 1)) 0 [some (.ref 18), some (.int x1), some (.int x2), some (.int x3), none] [] h Q :=
  am_aload_n d_Draws_playHoles_0 rfl (i := 0) rfl <|
    am_iload_n d_Draws_playHoles_1 rfl (i := 1) rfl <|
    am_callV (vs := [.int x1]) (st := []) (k := 18) (ci := 5) rfl d_Draws_playHoles_2 rfl rfl w_1005 w_1006 w_1007 w_89 w_1008 p_Draws_begin (Nat.le_of_ble_eq_true rfl) (Nat.le_of_ble_eq_true rfl) rfl k
theorem b_Draws_playHoles_5 {d : Nat} {x1 : Int32} {x2 : Int32} {x3 : Int32} {h : am_H} {Q : am_Q} (k : am_W (X_Draws_playHoles d) 18 [some (.ref 18), some (.int x1), some (.int x2), some (.int x3), some (.int 0)] [] (am_pI (am_pI h 18 3 0) 18 4 0) Q) : am_W (X_Draws_playHoles d) 5 [some (.ref 18), some (.int x1), some (.int x2), some (.int x3), none] [] h Q :=
  am_aload_n d_Draws_playHoles_5 rfl (i := 0) rfl <|
    am_iconst (v := 0) d_Draws_playHoles_6 (by decide) <|
    am_putI (ci := 5) (i := 3) rfl rfl rfl (Nat.le_of_ble_eq_true rfl) w_263 rfl rfl rfl d_Draws_playHoles_7 <|
    am_aload_n d_Draws_playHoles_10 rfl (i := 0) rfl <|
    am_iconst (v := 0) d_Draws_playHoles_11 (by decide) <|
    am_putI (ci := 5) (i := 4) rfl rfl rfl (Nat.le_of_ble_eq_true rfl) w_264 rfl rfl rfl d_Draws_playHoles_12 <|
    am_iconst (v := 0) d_Draws_playHoles_15 (by decide) <|
    am_istore (ls' := [some (.ref 18), some (.int x1), some (.int x2), some (.int x3), some (.int 0)]) d_Draws_playHoles_16 (Nat.le_of_ble_eq_true rfl) rfl <|
    k
theorem b_Draws_playHoles_18 {d : Nat} {x1 : Int32} {x2 : Int32} {x3 : Int32} {x4 : Int32} {h : am_H} {Q : am_Q} (kt : x2 ≤ x4 → am_W (X_Draws_playHoles d) 35 [some (.ref 18), some (.int x1), some (.int x2), some (.int x3), some (.int x4)] [] h Q) (kf : ¬ x2 ≤ x4 → am_W (X_Draws_playHoles d) 24 [some (.ref 18), some (.int x1), some (.int x2), some (.int x3), some (.int x4)] [] h Q) : am_W (X_Draws_playHoles d) 18 [some (.ref 18), some (.int x1), some (.int x2), some (.int x3), some (.int x4)] [] h Q :=
  am_iload d_Draws_playHoles_18 rfl <|
    am_iload_n d_Draws_playHoles_20 rfl (i := 2) rfl <|
    am_icmp_ge (tgt := 35) d_Draws_playHoles_21 (by decide) kt kf
theorem b_Draws_playHoles_24 {d : Nat} {x1 : Int32} {x2 : Int32} {x3 : Int32} {x4 : Int32} {h : am_H} {Q : am_Q} (k : m_Draws_playHole d [.ref 18, .int x3] h (fun r hh => am_W (X_Draws_playHoles (d + 1)) 29 [some (.ref 18), some (.int x1), some (.int x2), some (.int x3), some (.int x4)] (r.toList ++ []) hh Q)) : am_W (X_Draws_playHoles (d + 1)) 24 [some (.ref 18), some (.int x1), some (.int x2), some (.int x3), some (.int x4)] [] h Q :=
  am_aload_n d_Draws_playHoles_24 rfl (i := 0) rfl <|
    am_iload_n d_Draws_playHoles_25 rfl (i := 3) rfl <|
    am_callV (vs := [.int x3]) (st := []) (k := 18) (ci := 5) rfl d_Draws_playHoles_26 rfl rfl w_1009 w_1011 w_27 w_89 w_1012 p_Draws_playHole (Nat.le_of_ble_eq_true rfl) (Nat.le_of_ble_eq_true rfl) rfl k
theorem b_Draws_playHoles_29 {d : Nat} {x1 : Int32} {x2 : Int32} {x3 : Int32} {x4 : Int32} {h : am_H} {Q : am_Q} (k : am_W (X_Draws_playHoles d) 18 [some (.ref 18), some (.int x1), some (.int x2), some (.int x3), some (.int (x4 + 1))] [] h Q) : am_W (X_Draws_playHoles d) 29 [some (.ref 18), some (.int x1), some (.int x2), some (.int x3), some (.int x4)] [] h Q :=
  am_iinc (v := (x4 + 1)) (ls' := [some (.ref 18), some (.int x1), some (.int x2), some (.int x3), some (.int (x4 + 1))]) d_Draws_playHoles_29 rfl rfl (Nat.le_of_ble_eq_true rfl) rfl <|
    am_goto (tgt := 18) d_Draws_playHoles_32 (by decide) k
theorem b_Draws_playHoles_35 {d : Nat} {x1 : Int32} {x2 : Int32} {x3 : Int32} {x4 : Int32} {h : am_H} {Q : am_Q} (q : Q none h) : am_W (X_Draws_playHoles d) 35 [some (.ref 18), some (.int x1), some (.int x2), some (.int x3), some (.int x4)] [] h Q :=
  am_vret rfl d_Draws_playHoles_35 q
theorem t_Draws_playHoles_35 {d : Nat} {x1 : Int32} {x2 : Int32} {x3 : Int32} {x4 : Int32} {h : am_H} {Q : am_Q} {res : am_H} (e : f_Draws_playHoles_35 h = some res) (q : Q none res) : am_W (X_Draws_playHoles (d + 5)) 35 [some (.ref 18), some (.int x1), some (.int x2), some (.int x3), some (.int x4)] [] h Q :=
  b_Draws_playHoles_35 (d := (d + 5)) (q := (am_rVpi e q))
theorem t_Draws_playHoles_29 {d : Nat} {k18 : am_H → Int32 → Int32 → Int32 → Option (am_H)} {x1 : Int32} {x2 : Int32} {x3 : Int32} {x4 : Int32} {h : am_H} {Q : am_Q} {res : am_H} (hk18 : ∀ (x1 : Int32) (x2 : Int32) (x3 : Int32) (x4 : Int32) (h : am_H), k18 h x2 x3 x4 = some res → am_W (X_Draws_playHoles (d + 5)) 18 [some (.ref 18), some (.int x1), some (.int x2), some (.int x3), some (.int x4)] [] h Q) (e : f_Draws_playHoles_29 k18 h x2 x3 x4 = some res) (q : Q none res) : am_W (X_Draws_playHoles (d + 5)) 29 [some (.ref 18), some (.int x1), some (.int x2), some (.int x3), some (.int x4)] [] h Q :=
  b_Draws_playHoles_29 (d := (d + 5)) (k := (hk18 _ _ _ _ _ e))
theorem t_Draws_playHoles_24 {d : Nat} {k18 : am_H → Int32 → Int32 → Int32 → Option (am_H)} {x1 : Int32} {x2 : Int32} {x3 : Int32} {x4 : Int32} {h : am_H} {Q : am_Q} {res : am_H} (hk18 : ∀ (x1 : Int32) (x2 : Int32) (x3 : Int32) (x4 : Int32) (h : am_H), k18 h x2 x3 x4 = some res → am_W (X_Draws_playHoles (d + 5)) 18 [some (.ref 18), some (.int x1), some (.int x2), some (.int x3), some (.int x4)] [] h Q) (e : f_Draws_playHoles_24 k18 h x2 x3 x4 = some res) (q : Q none res) : am_W (X_Draws_playHoles (d + 5)) 24 [some (.ref 18), some (.int x1), some (.int x2), some (.int x3), some (.int x4)] [] h Q :=
  (am_bd e).elim fun p hp => b_Draws_playHoles_24 (d := (d + 4)) (k := c_Draws_playHole (d := d) hp.1 (t_Draws_playHoles_29 hk18 hp.2 q))
theorem t_Draws_playHoles_18 {d : Nat} {k18 : am_H → Int32 → Int32 → Int32 → Option (am_H)} {x1 : Int32} {x2 : Int32} {x3 : Int32} {x4 : Int32} {h : am_H} {Q : am_Q} {res : am_H} (hk18 : ∀ (x1 : Int32) (x2 : Int32) (x3 : Int32) (x4 : Int32) (h : am_H), k18 h x2 x3 x4 = some res → am_W (X_Draws_playHoles (d + 5)) 18 [some (.ref 18), some (.int x1), some (.int x2), some (.int x3), some (.int x4)] [] h Q) (e : f_Draws_playHoles_18 k18 h x2 x3 x4 = some res) (q : Q none res) : am_W (X_Draws_playHoles (d + 5)) 18 [some (.ref 18), some (.int x1), some (.int x2), some (.int x3), some (.int x4)] [] h Q :=
  b_Draws_playHoles_18 (d := (d + 5)) (kt := fun c => (t_Draws_playHoles_35 (am_ift e c) q)) (kf := fun c => (t_Draws_playHoles_24 hk18 (am_ife e c) q))
theorem t_Draws_playHoles_18_l {d : Nat} {Q : am_Q} {res : am_H} (q : Q none res) : ∀ (n : Nat) (x1 : Int32) (x2 : Int32) (x3 : Int32) (x4 : Int32) (h : am_H), f_Draws_playHoles_18_l n h x2 x3 x4 = some res → am_W (X_Draws_playHoles (d + 5)) 18 [some (.ref 18), some (.int x1), some (.int x2), some (.int x3), some (.int x4)] [] h Q := by
  intro n
  induction n with
  | zero => intro x1 x2 x3 x4 h e; exact am_nn e
  | succ n ih => intro x1 x2 x3 x4 h e; exact t_Draws_playHoles_18 (fun x1 x2 x3 x4 h e => ih x1 x2 x3 x4 h  e) e q
theorem t_Draws_playHoles_5 {d : Nat} {x1 : Int32} {x2 : Int32} {x3 : Int32} {h : am_H} {Q : am_Q} {res : am_H} (e : f_Draws_playHoles_5 h x2 x3 = some res) (q : Q none res) : am_W (X_Draws_playHoles (d + 5)) 5 [some (.ref 18), some (.int x1), some (.int x2), some (.int x3), none] [] h Q :=
  b_Draws_playHoles_5 (d := (d + 5)) (k := (t_Draws_playHoles_18_l q am_fu _ _ _ _ _ e))
theorem t_Draws_playHoles_0 {d : Nat} {x1 : Int32} {x2 : Int32} {x3 : Int32} {h : am_H} {Q : am_Q} {res : am_H} (e : f_Draws_playHoles h x1 x2 x3 = some res) (q : Q none res) : am_W (X_Draws_playHoles (d + 5)) 0 [some (.ref 18), some (.int x1), some (.int x2), some (.int x3), none] [] h Q :=
  b_Draws_playHoles_0 (d := (d + 4)) (k := c_Draws_begin (d := d + 4) rfl (t_Draws_playHoles_5 e q))
theorem c_Draws_playHoles {d : Nat} {x1 : Int32} {x2 : Int32} {x3 : Int32} {h : am_H} {Q : am_Q} {res : am_H} (e : f_Draws_playHoles h x1 x2 x3 = some res) (q : Q none res) : m_Draws_playHoles (d + 5) [.ref 18, .int x1, .int x2, .int x3] h Q :=
  e_Draws_playHoles (t_Draws_playHoles_0 e q)
theorem d_Draws_strokesPlayed_0 : decode prog_4_method_8_code 0 = .ok (.aload_n 0, 1) := by decide +kernel
theorem d_Draws_strokesPlayed_1 : decode prog_4_method_8_code 1 = .ok (.getfield 15, 3) := by decide +kernel
theorem d_Draws_strokesPlayed_4 : decode prog_4_method_8_code 4 = .ok (.ireturn, 1) := by decide +kernel
theorem b_Draws_strokesPlayed_0 {d : Nat} {h : am_H} {Q : am_Q} (q : Q (some (.int (h.1 18 3))) h) : am_W (X_Draws_strokesPlayed d) 0 [some (.ref 18)] [] h Q :=
  am_aload_n d_Draws_strokesPlayed_0 rfl (i := 0) rfl <|
    am_getI (ci := 5) (i := 3) rfl rfl rfl (Nat.le_of_ble_eq_true rfl) w_263 d_Draws_strokesPlayed_1 <|
    am_iret rfl d_Draws_strokesPlayed_4 q
theorem t_Draws_strokesPlayed_0 {d : Nat} {h : am_H} {Q : am_Q} {res : Int32} (e : f_Draws_strokesPlayed h = res) (q : Q (some (.int res)) h) : am_W (X_Draws_strokesPlayed d) 0 [some (.ref 18)] [] h Q :=
  b_Draws_strokesPlayed_0 (d := d) (q := (am_rIt (v := (h.1 18 3)) e q))
theorem c_Draws_strokesPlayed {d : Nat} {h : am_H} {Q : am_Q} {res : Int32} (e : f_Draws_strokesPlayed h = res) (q : Q (some (.int res)) h) : m_Draws_strokesPlayed d [.ref 18] h Q :=
  e_Draws_strokesPlayed (t_Draws_strokesPlayed_0 e q)
theorem d_Draws_timesInWater_0 : decode prog_4_method_9_code 0 = .ok (.aload_n 0, 1) := by decide +kernel
theorem d_Draws_timesInWater_1 : decode prog_4_method_9_code 1 = .ok (.getfield 18, 3) := by decide +kernel
theorem d_Draws_timesInWater_4 : decode prog_4_method_9_code 4 = .ok (.ireturn, 1) := by decide +kernel
theorem b_Draws_timesInWater_0 {d : Nat} {h : am_H} {Q : am_Q} (q : Q (some (.int (h.1 18 4))) h) : am_W (X_Draws_timesInWater d) 0 [some (.ref 18)] [] h Q :=
  am_aload_n d_Draws_timesInWater_0 rfl (i := 0) rfl <|
    am_getI (ci := 5) (i := 4) rfl rfl rfl (Nat.le_of_ble_eq_true rfl) w_264 d_Draws_timesInWater_1 <|
    am_iret rfl d_Draws_timesInWater_4 q
theorem t_Draws_timesInWater_0 {d : Nat} {h : am_H} {Q : am_Q} {res : Int32} (e : f_Draws_timesInWater h = res) (q : Q (some (.int res)) h) : am_W (X_Draws_timesInWater d) 0 [some (.ref 18)] [] h Q :=
  b_Draws_timesInWater_0 (d := d) (q := (am_rIt (v := (h.1 18 4)) e q))
theorem c_Draws_timesInWater {d : Nat} {h : am_H} {Q : am_Q} {res : Int32} (e : f_Draws_timesInWater h = res) (q : Q (some (.int res)) h) : m_Draws_timesInWater d [.ref 18] h Q :=
  e_Draws_timesInWater (t_Draws_timesInWater_0 e q)
theorem d_Reck_findClubs_0 : decode prog_7_method_16_code 0 = .ok (.iload_n 2, 1) := by decide +kernel
theorem d_Reck_findClubs_1 : decode prog_7_method_16_code 1 = .ok (.iconst 1, 1) := by decide +kernel
theorem d_Reck_findClubs_2 : decode prog_7_method_16_code 2 = .ok (.if_icmp .ne 8, 3) := by decide +kernel
theorem d_Reck_findClubs_5 : decode prog_7_method_16_code 5 = .ok (.aload_n 0, 1) := by decide +kernel
theorem d_Reck_findClubs_6 : decode prog_7_method_16_code 6 = .ok (.invokevirtual 129, 3) := by decide +kernel
theorem d_Reck_findClubs_9 : decode prog_7_method_16_code 9 = .ok (.return_, 1) := by decide +kernel
theorem d_Reck_findClubs_10 : decode prog_7_method_16_code 10 = .ok (.iconst 0, 1) := by decide +kernel
theorem d_Reck_findClubs_11 : decode prog_7_method_16_code 11 = .ok (.istore_n 3, 1) := by decide +kernel
theorem d_Reck_findClubs_12 : decode prog_7_method_16_code 12 = .ok (.iload_n 3, 1) := by decide +kernel
theorem d_Reck_findClubs_13 : decode prog_7_method_16_code 13 = .ok (.bipush 31, 2) := by decide +kernel
theorem d_Reck_findClubs_15 : decode prog_7_method_16_code 15 = .ok (.if_icmp .ge 17, 3) := by decide +kernel
theorem d_Reck_findClubs_18 : decode prog_7_method_16_code 18 = .ok (.aload_n 0, 1) := by decide +kernel
theorem d_Reck_findClubs_19 : decode prog_7_method_16_code 19 = .ok (.iload_n 3, 1) := by decide +kernel
theorem d_Reck_findClubs_20 : decode prog_7_method_16_code 20 = .ok (.iload_n 1, 1) := by decide +kernel
theorem d_Reck_findClubs_21 : decode prog_7_method_16_code 21 = .ok (.iconst 0, 1) := by decide +kernel
theorem d_Reck_findClubs_22 : decode prog_7_method_16_code 22 = .ok (.invokevirtual 132, 3) := by decide +kernel
theorem d_Reck_findClubs_25 : decode prog_7_method_16_code 25 = .ok (.pop2, 1) := by decide +kernel
theorem d_Reck_findClubs_26 : decode prog_7_method_16_code 26 = .ok (.iinc 3 1, 3) := by decide +kernel
theorem d_Reck_findClubs_29 : decode prog_7_method_16_code 29 = .ok (.goto (-17), 3) := by decide +kernel
theorem d_Reck_findClubs_32 : decode prog_7_method_16_code 32 = .ok (.return_, 1) := by decide +kernel
theorem b_Reck_findClubs_0 {d : Nat} {x1 : Int32} {x2 : Int32} {h : am_H} {Q : am_Q} (kt : ¬ x2 = 1 → am_W (X_Reck_findClubs d) 10 [some (.ref 12), some (.int x1), some (.int x2), none] [] h Q) (kf : x2 = 1 → am_W (X_Reck_findClubs d) 5 [some (.ref 12), some (.int x1), some (.int x2), none] [] h Q) : am_W (X_Reck_findClubs d) 0 [some (.ref 12), some (.int x1), some (.int x2), none] [] h Q :=
  am_iload_n d_Reck_findClubs_0 rfl (i := 2) rfl <|
    am_iconst (v := 1) d_Reck_findClubs_1 (by decide) <|
    am_icmp_ne (tgt := 10) d_Reck_findClubs_2 (by decide) kt kf
theorem b_Reck_findClubs_5 {d : Nat} {x1 : Int32} {x2 : Int32} {h : am_H} {Q : am_Q} (k : m_Reck_findLawfulClubs d [.ref 12] h (fun r hh => am_W (X_Reck_findClubs (d + 1)) 9 [some (.ref 12), some (.int x1), some (.int x2), none] (r.toList ++ []) hh Q)) : am_W (X_Reck_findClubs (d + 1)) 5 [some (.ref 12), some (.int x1), some (.int x2), none] [] h Q :=
  am_aload_n d_Reck_findClubs_5 rfl (i := 0) rfl <|
    am_callV (vs := []) (st := []) (k := 12) (ci := 3) rfl d_Reck_findClubs_6 rfl rfl w_862 w_863 w_864 w_87 w_865 p_Reck_findLawfulClubs (Nat.le_of_ble_eq_true rfl) (Nat.le_of_ble_eq_true rfl) rfl k
theorem b_Reck_findClubs_9 {d : Nat} {x1 : Int32} {x2 : Int32} {h : am_H} {Q : am_Q} (q : Q none h) : am_W (X_Reck_findClubs d) 9 [some (.ref 12), some (.int x1), some (.int x2), none] [] h Q :=
  am_vret rfl d_Reck_findClubs_9 q
theorem b_Reck_findClubs_10 {d : Nat} {x1 : Int32} {x2 : Int32} {h : am_H} {Q : am_Q} (k : am_W (X_Reck_findClubs d) 12 [some (.ref 12), some (.int x1), some (.int x2), some (.int 0)] [] h Q) : am_W (X_Reck_findClubs d) 10 [some (.ref 12), some (.int x1), some (.int x2), none] [] h Q :=
  am_iconst (v := 0) d_Reck_findClubs_10 (by decide) <|
    am_istore_n (ls' := [some (.ref 12), some (.int x1), some (.int x2), some (.int 0)]) d_Reck_findClubs_11 rfl (Nat.le_of_ble_eq_true rfl) rfl <|
    k
theorem b_Reck_findClubs_12 {d : Nat} {x1 : Int32} {x2 : Int32} {x3 : Int32} {h : am_H} {Q : am_Q} (kt : 31 ≤ x3 → am_W (X_Reck_findClubs d) 32 [some (.ref 12), some (.int x1), some (.int x2), some (.int x3)] [] h Q) (kf : ¬ 31 ≤ x3 → am_W (X_Reck_findClubs d) 18 [some (.ref 12), some (.int x1), some (.int x2), some (.int x3)] [] h Q) : am_W (X_Reck_findClubs d) 12 [some (.ref 12), some (.int x1), some (.int x2), some (.int x3)] [] h Q :=
  am_iload_n d_Reck_findClubs_12 rfl (i := 3) rfl <|
    am_bipush (v := 31) d_Reck_findClubs_13 (by decide) <|
    am_icmp_ge (tgt := 32) d_Reck_findClubs_15 (by decide) kt kf
theorem b_Reck_findClubs_18 {d : Nat} {x1 : Int32} {x2 : Int32} {x3 : Int32} {h : am_H} {Q : am_Q} (k : m_Reck_mean d [.ref 12, .int x3, .int x1, .int 0] h (fun r hh => am_W (X_Reck_findClubs (d + 1)) 25 [some (.ref 12), some (.int x1), some (.int x2), some (.int x3)] (r.toList ++ []) hh Q)) : am_W (X_Reck_findClubs (d + 1)) 18 [some (.ref 12), some (.int x1), some (.int x2), some (.int x3)] [] h Q :=
  am_aload_n d_Reck_findClubs_18 rfl (i := 0) rfl <|
    am_iload_n d_Reck_findClubs_19 rfl (i := 3) rfl <|
    am_iload_n d_Reck_findClubs_20 rfl (i := 1) rfl <|
    am_iconst (v := 0) d_Reck_findClubs_21 (by decide) <|
    am_callV (vs := [.int x3, .int x1, .int 0]) (st := []) (k := 12) (ci := 3) rfl d_Reck_findClubs_22 rfl rfl w_867 w_806 w_807 w_87 w_808 p_Reck_mean (Nat.le_of_ble_eq_true rfl) (Nat.le_of_ble_eq_true rfl) rfl k
theorem b_Reck_findClubs_25 {d : Nat} {x1 : Int32} {x2 : Int32} {x3 : Int32} {y0 : Int64} {h : am_H} {Q : am_Q} (k : am_W (X_Reck_findClubs d) 12 [some (.ref 12), some (.int x1), some (.int x2), some (.int (x3 + 1))] [] h Q) : am_W (X_Reck_findClubs d) 25 [some (.ref 12), some (.int x1), some (.int x2), some (.int x3)] [.long y0] h Q :=
  am_pop2L d_Reck_findClubs_25 <|
    am_iinc (v := (x3 + 1)) (ls' := [some (.ref 12), some (.int x1), some (.int x2), some (.int (x3 + 1))]) d_Reck_findClubs_26 rfl rfl (Nat.le_of_ble_eq_true rfl) rfl <|
    am_goto (tgt := 12) d_Reck_findClubs_29 (by decide) k
theorem b_Reck_findClubs_32 {d : Nat} {x1 : Int32} {x2 : Int32} {x3 : Int32} {h : am_H} {Q : am_Q} (q : Q none h) : am_W (X_Reck_findClubs d) 32 [some (.ref 12), some (.int x1), some (.int x2), some (.int x3)] [] h Q :=
  am_vret rfl d_Reck_findClubs_32 q
theorem t_Reck_findClubs_32 {d : Nat} {x1 : Int32} {x2 : Int32} {x3 : Int32} {h : am_H} {Q : am_Q} {res : am_H} (e : f_Reck_findClubs_32 h = some res) (q : Q none res) : am_W (X_Reck_findClubs (d + 5)) 32 [some (.ref 12), some (.int x1), some (.int x2), some (.int x3)] [] h Q :=
  b_Reck_findClubs_32 (d := (d + 5)) (q := (am_rVpi e q))
theorem t_Reck_findClubs_25 {d : Nat} {k12 : am_H → Int32 → Int32 → Option (am_H)} {x1 : Int32} {x2 : Int32} {x3 : Int32} {y0 : Int64} {h : am_H} {Q : am_Q} {res : am_H} (hk12 : ∀ (x1 : Int32) (x2 : Int32) (x3 : Int32) (h : am_H), k12 h x1 x3 = some res → am_W (X_Reck_findClubs (d + 5)) 12 [some (.ref 12), some (.int x1), some (.int x2), some (.int x3)] [] h Q) (e : f_Reck_findClubs_25 k12 h x1 x3 y0 = some res) (q : Q none res) : am_W (X_Reck_findClubs (d + 5)) 25 [some (.ref 12), some (.int x1), some (.int x2), some (.int x3)] [.long y0] h Q :=
  b_Reck_findClubs_25 (d := (d + 5)) (k := (hk12 _ _ _ _ e))
theorem t_Reck_findClubs_18 {d : Nat} {k12 : am_H → Int32 → Int32 → Option (am_H)} {x1 : Int32} {x2 : Int32} {x3 : Int32} {h : am_H} {Q : am_Q} {res : am_H} (hk12 : ∀ (x1 : Int32) (x2 : Int32) (x3 : Int32) (h : am_H), k12 h x1 x3 = some res → am_W (X_Reck_findClubs (d + 5)) 12 [some (.ref 12), some (.int x1), some (.int x2), some (.int x3)] [] h Q) (e : f_Reck_findClubs_18 k12 h x1 x3 = some res) (q : Q none res) : am_W (X_Reck_findClubs (d + 5)) 18 [some (.ref 12), some (.int x1), some (.int x2), some (.int x3)] [] h Q :=
  (am_bd e).elim fun p hp => b_Reck_findClubs_18 (d := (d + 4)) (k := c_Reck_mean (d := d) hp.1 (t_Reck_findClubs_25 hk12 hp.2 q))
theorem t_Reck_findClubs_12 {d : Nat} {k12 : am_H → Int32 → Int32 → Option (am_H)} {x1 : Int32} {x2 : Int32} {x3 : Int32} {h : am_H} {Q : am_Q} {res : am_H} (hk12 : ∀ (x1 : Int32) (x2 : Int32) (x3 : Int32) (h : am_H), k12 h x1 x3 = some res → am_W (X_Reck_findClubs (d + 5)) 12 [some (.ref 12), some (.int x1), some (.int x2), some (.int x3)] [] h Q) (e : f_Reck_findClubs_12 k12 h x1 x3 = some res) (q : Q none res) : am_W (X_Reck_findClubs (d + 5)) 12 [some (.ref 12), some (.int x1), some (.int x2), some (.int x3)] [] h Q :=
  b_Reck_findClubs_12 (d := (d + 5)) (kt := fun c => (t_Reck_findClubs_32 (am_ift e c) q)) (kf := fun c => (t_Reck_findClubs_18 hk12 (am_ife e c) q))
theorem t_Reck_findClubs_12_l {d : Nat} {Q : am_Q} {res : am_H} (q : Q none res) : ∀ (n : Nat) (x1 : Int32) (x2 : Int32) (x3 : Int32) (h : am_H), f_Reck_findClubs_12_l n h x1 x3 = some res → am_W (X_Reck_findClubs (d + 5)) 12 [some (.ref 12), some (.int x1), some (.int x2), some (.int x3)] [] h Q := by
  intro n
  induction n with
  | zero => intro x1 x2 x3 h e; exact am_nn e
  | succ n ih => intro x1 x2 x3 h e; exact t_Reck_findClubs_12 (fun x1 x2 x3 h e => ih x1 x2 x3 h  e) e q
theorem t_Reck_findClubs_10 {d : Nat} {x1 : Int32} {x2 : Int32} {h : am_H} {Q : am_Q} {res : am_H} (e : f_Reck_findClubs_10 h x1 = some res) (q : Q none res) : am_W (X_Reck_findClubs (d + 5)) 10 [some (.ref 12), some (.int x1), some (.int x2), none] [] h Q :=
  b_Reck_findClubs_10 (d := (d + 5)) (k := (t_Reck_findClubs_12_l q am_fu _ _ _ _ e))
theorem t_Reck_findClubs_9 {d : Nat} {x1 : Int32} {x2 : Int32} {h : am_H} {Q : am_Q} {res : am_H} (e : f_Reck_findClubs_9 h = some res) (q : Q none res) : am_W (X_Reck_findClubs (d + 5)) 9 [some (.ref 12), some (.int x1), some (.int x2), none] [] h Q :=
  b_Reck_findClubs_9 (d := (d + 5)) (q := (am_rVpi e q))
theorem t_Reck_findClubs_5 {d : Nat} {x1 : Int32} {x2 : Int32} {h : am_H} {Q : am_Q} {res : am_H} (e : f_Reck_findClubs_5 h = some res) (q : Q none res) : am_W (X_Reck_findClubs (d + 5)) 5 [some (.ref 12), some (.int x1), some (.int x2), none] [] h Q :=
  (am_bd e).elim fun p hp => b_Reck_findClubs_5 (d := (d + 4)) (k := c_Reck_findLawfulClubs (d := d) hp.1 (t_Reck_findClubs_9 hp.2 q))
theorem t_Reck_findClubs_0 {d : Nat} {x1 : Int32} {x2 : Int32} {h : am_H} {Q : am_Q} {res : am_H} (e : f_Reck_findClubs h x1 x2 = some res) (q : Q none res) : am_W (X_Reck_findClubs (d + 5)) 0 [some (.ref 12), some (.int x1), some (.int x2), none] [] h Q :=
  b_Reck_findClubs_0 (d := (d + 5)) (kt := fun c => (t_Reck_findClubs_10 (am_ife e c) q)) (kf := fun c => (t_Reck_findClubs_5 (am_ift e c) q))
theorem c_Reck_findClubs {d : Nat} {x1 : Int32} {x2 : Int32} {h : am_H} {Q : am_Q} {res : am_H} (e : f_Reck_findClubs h x1 x2 = some res) (q : Q none res) : m_Reck_findClubs (d + 5) [.ref 12, .int x1, .int x2] h Q :=
  e_Reck_findClubs (t_Reck_findClubs_0 e q)
theorem d_Club_drawn_0 : decode prog_1_method_23_code 0 = .ok (.iload_n 2, 1) := by decide +kernel
theorem d_Club_drawn_1 : decode prog_1_method_23_code 1 = .ok (.bipush 10, 2) := by decide +kernel
theorem d_Club_drawn_3 : decode prog_1_method_23_code 3 = .ok (.idiv, 1) := by decide +kernel
theorem d_Club_drawn_4 : decode prog_1_method_23_code 4 = .ok (.istore 4, 2) := by decide +kernel
theorem d_Club_drawn_6 : decode prog_1_method_23_code 6 = .ok (.iload_n 2, 1) := by decide +kernel
theorem d_Club_drawn_7 : decode prog_1_method_23_code 7 = .ok (.bipush 10, 2) := by decide +kernel
theorem d_Club_drawn_9 : decode prog_1_method_23_code 9 = .ok (.irem, 1) := by decide +kernel
theorem d_Club_drawn_10 : decode prog_1_method_23_code 10 = .ok (.istore 5, 2) := by decide +kernel
theorem d_Club_drawn_12 : decode prog_1_method_23_code 12 = .ok (.iload_n 2, 1) := by decide +kernel
theorem d_Club_drawn_13 : decode prog_1_method_23_code 13 = .ok (.ifCond .lt 26, 3) := by decide +kernel
theorem d_Club_drawn_16 : decode prog_1_method_23_code 16 = .ok (.iload 4, 2) := by decide +kernel
theorem d_Club_drawn_18 : decode prog_1_method_23_code 18 = .ok (.iconst 1, 1) := by decide +kernel
theorem d_Club_drawn_19 : decode prog_1_method_23_code 19 = .ok (.if_icmp .lt 20, 3) := by decide +kernel
theorem d_Club_drawn_22 : decode prog_1_method_23_code 22 = .ok (.iload 4, 2) := by decide +kernel
theorem d_Club_drawn_24 : decode prog_1_method_23_code 24 = .ok (.bipush 20, 2) := by decide +kernel
theorem d_Club_drawn_26 : decode prog_1_method_23_code 26 = .ok (.if_icmp .gt 13, 3) := by decide +kernel
theorem d_Club_drawn_29 : decode prog_1_method_23_code 29 = .ok (.iload 5, 2) := by decide +kernel
theorem d_Club_drawn_31 : decode prog_1_method_23_code 31 = .ok (.iconst 1, 1) := by decide +kernel
theorem d_Club_drawn_32 : decode prog_1_method_23_code 32 = .ok (.if_icmp .gt 7, 3) := by decide +kernel
theorem d_Club_drawn_35 : decode prog_1_method_23_code 35 = .ok (.iconst 1, 1) := by decide +kernel
theorem d_Club_drawn_36 : decode prog_1_method_23_code 36 = .ok (.goto 4, 3) := by decide +kernel
theorem d_Club_drawn_39 : decode prog_1_method_23_code 39 = .ok (.iconst 0, 1) := by decide +kernel
theorem d_Club_drawn_40 : decode prog_1_method_23_code 40 = .ok (.istore 6, 2) := by decide +kernel
theorem d_Club_drawn_42 : decode prog_1_method_23_code 42 = .ok (.iload 6, 2) := by decide +kernel
theorem d_Club_drawn_44 : decode prog_1_method_23_code 44 = .ok (.ifCond .eq 12, 3) := by decide +kernel
theorem d_Club_drawn_47 : decode prog_1_method_23_code 47 = .ok (.iload_n 3, 1) := by decide +kernel
theorem d_Club_drawn_48 : decode prog_1_method_23_code 48 = .ok (.ifCond .lt 8, 3) := by decide +kernel
theorem d_Club_drawn_51 : decode prog_1_method_23_code 51 = .ok (.iload_n 3, 1) := by decide +kernel
theorem d_Club_drawn_52 : decode prog_1_method_23_code 52 = .ok (.iconst 1, 1) := by decide +kernel
theorem d_Club_drawn_53 : decode prog_1_method_23_code 53 = .ok (.if_icmp .le 5, 3) := by decide +kernel
theorem d_Club_drawn_56 : decode prog_1_method_23_code 56 = .ok (.iconst (-1), 1) := by decide +kernel
theorem d_Club_drawn_57 : decode prog_1_method_23_code 57 = .ok (.ireturn, 1) := by decide +kernel
theorem d_Club_drawn_58 : decode prog_1_method_23_code 58 = .ok (.aload_n 0, 1) := by decide +kernel
theorem d_Club_drawn_59 : decode prog_1_method_23_code 59 = .ok (.getfield 12, 3) := by decide +kernel
theorem d_Club_drawn_62 : decode prog_1_method_23_code 62 = .ok (.invokevirtual 181, 3) := by decide +kernel
theorem d_Club_drawn_65 : decode prog_1_method_23_code 65 = .ok (.ifCond .eq 6, 3) := by decide +kernel
theorem d_Club_drawn_68 : decode prog_1_method_23_code 68 = .ok (.bipush (-5), 2) := by decide +kernel
theorem d_Club_drawn_70 : decode prog_1_method_23_code 70 = .ok (.ireturn, 1) := by decide +kernel
theorem d_Club_drawn_71 : decode prog_1_method_23_code 71 = .ok (.aload_n 0, 1) := by decide +kernel
theorem d_Club_drawn_72 : decode prog_1_method_23_code 72 = .ok (.getfield 30, 3) := by decide +kernel
theorem d_Club_drawn_75 : decode prog_1_method_23_code 75 = .ok (.iconst 3, 1) := by decide +kernel
theorem d_Club_drawn_76 : decode prog_1_method_23_code 76 = .ok (.iload 5, 2) := by decide +kernel
theorem d_Club_drawn_78 : decode prog_1_method_23_code 78 = .ok (.invokevirtual 259, 3) := by decide +kernel
theorem d_Club_drawn_81 : decode prog_1_method_23_code 81 = .ok (.aload_n 0, 1) := by decide +kernel
theorem d_Club_drawn_82 : decode prog_1_method_23_code 82 = .ok (.getfield 46, 3) := by decide +kernel
theorem d_Club_drawn_85 : decode prog_1_method_23_code 85 = .ok (.iload_n 1, 1) := by decide +kernel
theorem d_Club_drawn_86 : decode prog_1_method_23_code 86 = .ok (.iload 4, 2) := by decide +kernel
theorem d_Club_drawn_88 : decode prog_1_method_23_code 88 = .ok (.iload 5, 2) := by decide +kernel
theorem d_Club_drawn_90 : decode prog_1_method_23_code 90 = .ok (.invokevirtual 263, 3) := by decide +kernel
theorem d_Club_drawn_93 : decode prog_1_method_23_code 93 = .ok (.iload_n 3, 1) := by decide +kernel
theorem d_Club_drawn_94 : decode prog_1_method_23_code 94 = .ok (.ifCond .ne 13, 3) := by decide +kernel
theorem d_Club_drawn_97 : decode prog_1_method_23_code 97 = .ok (.aload_n 0, 1) := by decide +kernel
theorem d_Club_drawn_98 : decode prog_1_method_23_code 98 = .ok (.getfield 46, 3) := by decide +kernel
theorem d_Club_drawn_101 : decode prog_1_method_23_code 101 = .ok (.invokevirtual 266, 3) := by decide +kernel
theorem d_Club_drawn_104 : decode prog_1_method_23_code 104 = .ok (.goto 10, 3) := by decide +kernel
theorem d_Club_drawn_107 : decode prog_1_method_23_code 107 = .ok (.aload_n 0, 1) := by decide +kernel
theorem d_Club_drawn_108 : decode prog_1_method_23_code 108 = .ok (.getfield 46, 3) := by decide +kernel
theorem d_Club_drawn_111 : decode prog_1_method_23_code 111 = .ok (.invokevirtual 269, 3) := by decide +kernel
theorem d_Club_drawn_114 : decode prog_1_method_23_code 114 = .ok (.ireturn, 1) := by decide +kernel
theorem b_Club_drawn_0 {d : Nat} {x1 : Int32} {x2 : Int32} {x3 : Int32} {h : am_H} {Q : am_Q} (kt : x2 < 0 → am_W (X_Club_drawn d) 39 [some (.ref 0), some (.int x1), some (.int x2), some (.int x3), some (.int (x2 / 10)), some (.int (x2 - x2 / 10 * 10)), none] [] h Q) (kf : ¬ x2 < 0 → am_W (X_Club_drawn d) 16 [some (.ref 0), some (.int x1), some (.int x2), some (.int x3), some (.int (x2 / 10)), some (.int (x2 - x2 / 10 * 10)), none] [] h Q) : am_W (X_Club_drawn d) 0 [some (.ref 0), some (.int x1), some (.int x2), some (.int x3), none, none, none] [] h Q :=
  am_iload_n d_Club_drawn_0 rfl (i := 2) rfl <|
    am_bipush (v := 10) d_Club_drawn_1 (by decide) <|
    am_idiv d_Club_drawn_3 (by decide) <|
    am_istore (ls' := [some (.ref 0), some (.int x1), some (.int x2), some (.int x3), some (.int (x2 / 10)), none, none]) d_Club_drawn_4 (Nat.le_of_ble_eq_true rfl) rfl <|
    am_iload_n d_Club_drawn_6 rfl (i := 2) rfl <|
    am_bipush (v := 10) d_Club_drawn_7 (by decide) <|
    am_irem d_Club_drawn_9 (by decide) <|
    am_istore (ls' := [some (.ref 0), some (.int x1), some (.int x2), some (.int x3), some (.int (x2 / 10)), some (.int (x2 - x2 / 10 * 10)), none]) d_Club_drawn_10 (Nat.le_of_ble_eq_true rfl) rfl <|
    am_iload_n d_Club_drawn_12 rfl (i := 2) rfl <|
    am_if_lt (tgt := 39) d_Club_drawn_13 (by decide) kt kf
theorem b_Club_drawn_16 {d : Nat} {x1 : Int32} {x2 : Int32} {x3 : Int32} {x4 : Int32} {x5 : Int32} {h : am_H} {Q : am_Q} (kt : x4 < 1 → am_W (X_Club_drawn d) 39 [some (.ref 0), some (.int x1), some (.int x2), some (.int x3), some (.int x4), some (.int x5), none] [] h Q) (kf : ¬ x4 < 1 → am_W (X_Club_drawn d) 22 [some (.ref 0), some (.int x1), some (.int x2), some (.int x3), some (.int x4), some (.int x5), none] [] h Q) : am_W (X_Club_drawn d) 16 [some (.ref 0), some (.int x1), some (.int x2), some (.int x3), some (.int x4), some (.int x5), none] [] h Q :=
  am_iload d_Club_drawn_16 rfl <|
    am_iconst (v := 1) d_Club_drawn_18 (by decide) <|
    am_icmp_lt (tgt := 39) d_Club_drawn_19 (by decide) kt kf
theorem b_Club_drawn_22 {d : Nat} {x1 : Int32} {x2 : Int32} {x3 : Int32} {x4 : Int32} {x5 : Int32} {h : am_H} {Q : am_Q} (kt : 20 < x4 → am_W (X_Club_drawn d) 39 [some (.ref 0), some (.int x1), some (.int x2), some (.int x3), some (.int x4), some (.int x5), none] [] h Q) (kf : ¬ 20 < x4 → am_W (X_Club_drawn d) 29 [some (.ref 0), some (.int x1), some (.int x2), some (.int x3), some (.int x4), some (.int x5), none] [] h Q) : am_W (X_Club_drawn d) 22 [some (.ref 0), some (.int x1), some (.int x2), some (.int x3), some (.int x4), some (.int x5), none] [] h Q :=
  am_iload d_Club_drawn_22 rfl <|
    am_bipush (v := 20) d_Club_drawn_24 (by decide) <|
    am_icmp_gt (tgt := 39) d_Club_drawn_26 (by decide) kt kf
theorem b_Club_drawn_29 {d : Nat} {x1 : Int32} {x2 : Int32} {x3 : Int32} {x4 : Int32} {x5 : Int32} {h : am_H} {Q : am_Q} (kt : 1 < x5 → am_W (X_Club_drawn d) 39 [some (.ref 0), some (.int x1), some (.int x2), some (.int x3), some (.int x4), some (.int x5), none] [] h Q) (kf : ¬ 1 < x5 → am_W (X_Club_drawn d) 35 [some (.ref 0), some (.int x1), some (.int x2), some (.int x3), some (.int x4), some (.int x5), none] [] h Q) : am_W (X_Club_drawn d) 29 [some (.ref 0), some (.int x1), some (.int x2), some (.int x3), some (.int x4), some (.int x5), none] [] h Q :=
  am_iload d_Club_drawn_29 rfl <|
    am_iconst (v := 1) d_Club_drawn_31 (by decide) <|
    am_icmp_gt (tgt := 39) d_Club_drawn_32 (by decide) kt kf
theorem b_Club_drawn_35 {d : Nat} {x1 : Int32} {x2 : Int32} {x3 : Int32} {x4 : Int32} {x5 : Int32} {h : am_H} {Q : am_Q} (k : am_W (X_Club_drawn d) 40 [some (.ref 0), some (.int x1), some (.int x2), some (.int x3), some (.int x4), some (.int x5), none] [.int 1] h Q) : am_W (X_Club_drawn d) 35 [some (.ref 0), some (.int x1), some (.int x2), some (.int x3), some (.int x4), some (.int x5), none] [] h Q :=
  am_iconst (v := 1) d_Club_drawn_35 (by decide) <|
    am_goto (tgt := 40) d_Club_drawn_36 (by decide) k
theorem b_Club_drawn_39 {d : Nat} {x1 : Int32} {x2 : Int32} {x3 : Int32} {x4 : Int32} {x5 : Int32} {h : am_H} {Q : am_Q} (k : am_W (X_Club_drawn d) 40 [some (.ref 0), some (.int x1), some (.int x2), some (.int x3), some (.int x4), some (.int x5), none] [.int 0] h Q) : am_W (X_Club_drawn d) 39 [some (.ref 0), some (.int x1), some (.int x2), some (.int x3), some (.int x4), some (.int x5), none] [] h Q :=
  am_iconst (v := 0) d_Club_drawn_39 (by decide) <|
    k
theorem b_Club_drawn_40 {d : Nat} {x1 : Int32} {x2 : Int32} {x3 : Int32} {x4 : Int32} {x5 : Int32} {y0 : Int32} {h : am_H} {Q : am_Q} (kt : y0 = 0 → am_W (X_Club_drawn d) 56 [some (.ref 0), some (.int x1), some (.int x2), some (.int x3), some (.int x4), some (.int x5), some (.int y0)] [] h Q) (kf : ¬ y0 = 0 → am_W (X_Club_drawn d) 47 [some (.ref 0), some (.int x1), some (.int x2), some (.int x3), some (.int x4), some (.int x5), some (.int y0)] [] h Q) : am_W (X_Club_drawn d) 40 [some (.ref 0), some (.int x1), some (.int x2), some (.int x3), some (.int x4), some (.int x5), none] [.int y0] h Q :=
  am_istore (ls' := [some (.ref 0), some (.int x1), some (.int x2), some (.int x3), some (.int x4), some (.int x5), some (.int y0)]) d_Club_drawn_40 (Nat.le_of_ble_eq_true rfl) rfl <|
    am_iload d_Club_drawn_42 rfl <|
    am_if_eq (tgt := 56) d_Club_drawn_44 (by decide) kt kf
theorem b_Club_drawn_47 {d : Nat} {x1 : Int32} {x2 : Int32} {x3 : Int32} {x4 : Int32} {x5 : Int32} {x6 : Int32} {h : am_H} {Q : am_Q} (kt : x3 < 0 → am_W (X_Club_drawn d) 56 [some (.ref 0), some (.int x1), some (.int x2), some (.int x3), some (.int x4), some (.int x5), some (.int x6)] [] h Q) (kf : ¬ x3 < 0 → am_W (X_Club_drawn d) 51 [some (.ref 0), some (.int x1), some (.int x2), some (.int x3), some (.int x4), some (.int x5), some (.int x6)] [] h Q) : am_W (X_Club_drawn d) 47 [some (.ref 0), some (.int x1), some (.int x2), some (.int x3), some (.int x4), some (.int x5), some (.int x6)] [] h Q :=
  am_iload_n d_Club_drawn_47 rfl (i := 3) rfl <|
    am_if_lt (tgt := 56) d_Club_drawn_48 (by decide) kt kf
theorem b_Club_drawn_51 {d : Nat} {x1 : Int32} {x2 : Int32} {x3 : Int32} {x4 : Int32} {x5 : Int32} {x6 : Int32} {h : am_H} {Q : am_Q} (kt : x3 ≤ 1 → am_W (X_Club_drawn d) 58 [some (.ref 0), some (.int x1), some (.int x2), some (.int x3), some (.int x4), some (.int x5), some (.int x6)] [] h Q) (kf : ¬ x3 ≤ 1 → am_W (X_Club_drawn d) 56 [some (.ref 0), some (.int x1), some (.int x2), some (.int x3), some (.int x4), some (.int x5), some (.int x6)] [] h Q) : am_W (X_Club_drawn d) 51 [some (.ref 0), some (.int x1), some (.int x2), some (.int x3), some (.int x4), some (.int x5), some (.int x6)] [] h Q :=
  am_iload_n d_Club_drawn_51 rfl (i := 3) rfl <|
    am_iconst (v := 1) d_Club_drawn_52 (by decide) <|
    am_icmp_le (tgt := 58) d_Club_drawn_53 (by decide) kt kf
theorem b_Club_drawn_56 {d : Nat} {x1 : Int32} {x2 : Int32} {x3 : Int32} {x4 : Int32} {x5 : Int32} {x6 : Int32} {h : am_H} {Q : am_Q} (q : Q (some (.int (-1))) h) : am_W (X_Club_drawn d) 56 [some (.ref 0), some (.int x1), some (.int x2), some (.int x3), some (.int x4), some (.int x5), some (.int x6)] [] h Q :=
  am_iconst (v := (-1)) d_Club_drawn_56 (by decide) <|
    am_iret rfl d_Club_drawn_57 q
theorem b_Club_drawn_58 {d : Nat} {x1 : Int32} {x2 : Int32} {x3 : Int32} {x4 : Int32} {x5 : Int32} {x6 : Int32} {h : am_H} {Q : am_Q} (k : m_Hole_hasNoClubs d [.ref 1] h (fun r hh => am_W (X_Club_drawn (d + 1)) 65 [some (.ref 0), some (.int x1), some (.int x2), some (.int x3), some (.int x4), some (.int x5), some (.int x6)] (r.toList ++ []) hh Q)) : am_W (X_Club_drawn (d + 1)) 58 [some (.ref 0), some (.int x1), some (.int x2), some (.int x3), some (.int x4), some (.int x5), some (.int x6)] [] h Q :=
  am_aload_n d_Club_drawn_58 rfl (i := 0) rfl <|
    am_getR (ci := 0) (i := 0) rfl rfl rfl (Nat.le_of_ble_eq_true rfl) w_362 d_Club_drawn_59 <|
    am_callV (vs := []) (st := []) (k := 1) (ci := 1) rfl d_Club_drawn_62 rfl rfl w_735 w_736 w_737 w_84 w_738 p_Hole_hasNoClubs (Nat.le_of_ble_eq_true rfl) (Nat.le_of_ble_eq_true rfl) rfl k
theorem b_Club_drawn_65 {d : Nat} {x1 : Int32} {x2 : Int32} {x3 : Int32} {x4 : Int32} {x5 : Int32} {x6 : Int32} {y0 : Bool} {h : am_H} {Q : am_Q} (kt : (am_b y0) = 0 → am_W (X_Club_drawn d) 71 [some (.ref 0), some (.int x1), some (.int x2), some (.int x3), some (.int x4), some (.int x5), some (.int x6)] [] h Q) (kf : ¬ (am_b y0) = 0 → am_W (X_Club_drawn d) 68 [some (.ref 0), some (.int x1), some (.int x2), some (.int x3), some (.int x4), some (.int x5), some (.int x6)] [] h Q) : am_W (X_Club_drawn d) 65 [some (.ref 0), some (.int x1), some (.int x2), some (.int x3), some (.int x4), some (.int x5), some (.int x6)] [.int (am_b y0)] h Q :=
  am_if_eq (tgt := 71) d_Club_drawn_65 (by decide) kt kf
theorem b_Club_drawn_68 {d : Nat} {x1 : Int32} {x2 : Int32} {x3 : Int32} {x4 : Int32} {x5 : Int32} {x6 : Int32} {h : am_H} {Q : am_Q} (q : Q (some (.int (-5))) h) : am_W (X_Club_drawn d) 68 [some (.ref 0), some (.int x1), some (.int x2), some (.int x3), some (.int x4), some (.int x5), some (.int x6)] [] h Q :=
  am_bipush (v := (-5)) d_Club_drawn_68 (by decide) <|
    am_iret rfl d_Club_drawn_70 q
theorem b_Club_drawn_71 {d : Nat} {x1 : Int32} {x2 : Int32} {x3 : Int32} {x4 : Int32} {x5 : Int32} {x6 : Int32} {h : am_H} {Q : am_Q} (k : m_Reck_findClubs d [.ref 12, .int 3, .int x5] h (fun r hh => am_W (X_Club_drawn (d + 1)) 81 [some (.ref 0), some (.int x1), some (.int x2), some (.int x3), some (.int x4), some (.int x5), some (.int x6)] (r.toList ++ []) hh Q)) : am_W (X_Club_drawn (d + 1)) 71 [some (.ref 0), some (.int x1), some (.int x2), some (.int x3), some (.int x4), some (.int x5), some (.int x6)] [] h Q :=
  am_aload_n d_Club_drawn_71 rfl (i := 0) rfl <|
    am_getR (ci := 0) (i := 2) rfl rfl rfl (Nat.le_of_ble_eq_true rfl) w_364 d_Club_drawn_72 <|
    am_iconst (v := 3) d_Club_drawn_75 (by decide) <|
    am_iload d_Club_drawn_76 rfl <|
    am_callV (vs := [.int 3, .int x5]) (st := []) (k := 12) (ci := 3) rfl d_Club_drawn_78 rfl rfl w_997 w_998 w_999 w_87 w_1000 p_Reck_findClubs (Nat.le_of_ble_eq_true rfl) (Nat.le_of_ble_eq_true rfl) rfl k
theorem b_Club_drawn_81 {d : Nat} {x1 : Int32} {x2 : Int32} {x3 : Int32} {x4 : Int32} {x5 : Int32} {x6 : Int32} {h : am_H} {Q : am_Q} (k : m_Draws_playHoles d [.ref 18, .int x1, .int x4, .int x5] h (fun r hh => am_W (X_Club_drawn (d + 1)) 93 [some (.ref 0), some (.int x1), some (.int x2), some (.int x3), some (.int x4), some (.int x5), some (.int x6)] (r.toList ++ []) hh Q)) : am_W (X_Club_drawn (d + 1)) 81 [some (.ref 0), some (.int x1), some (.int x2), some (.int x3), some (.int x4), some (.int x5), some (.int x6)] [] h Q :=
  am_aload_n d_Club_drawn_81 rfl (i := 0) rfl <|
    am_getR (ci := 0) (i := 4) rfl rfl rfl (Nat.le_of_ble_eq_true rfl) w_366 d_Club_drawn_82 <|
    am_iload_n d_Club_drawn_85 rfl (i := 1) rfl <|
    am_iload d_Club_drawn_86 rfl <|
    am_iload d_Club_drawn_88 rfl <|
    am_callV (vs := [.int x1, .int x4, .int x5]) (st := []) (k := 18) (ci := 5) rfl d_Club_drawn_90 rfl rfl w_1001 w_1002 w_1003 w_89 w_1004 p_Draws_playHoles (Nat.le_of_ble_eq_true rfl) (Nat.le_of_ble_eq_true rfl) rfl k
theorem b_Club_drawn_93 {d : Nat} {x1 : Int32} {x2 : Int32} {x3 : Int32} {x4 : Int32} {x5 : Int32} {x6 : Int32} {h : am_H} {Q : am_Q} (kt : ¬ x3 = 0 → am_W (X_Club_drawn d) 107 [some (.ref 0), some (.int x1), some (.int x2), some (.int x3), some (.int x4), some (.int x5), some (.int x6)] [] h Q) (kf : x3 = 0 → am_W (X_Club_drawn d) 97 [some (.ref 0), some (.int x1), some (.int x2), some (.int x3), some (.int x4), some (.int x5), some (.int x6)] [] h Q) : am_W (X_Club_drawn d) 93 [some (.ref 0), some (.int x1), some (.int x2), some (.int x3), some (.int x4), some (.int x5), some (.int x6)] [] h Q :=
  am_iload_n d_Club_drawn_93 rfl (i := 3) rfl <|
    am_if_ne (tgt := 107) d_Club_drawn_94 (by decide) kt kf
theorem b_Club_drawn_97 {d : Nat} {x1 : Int32} {x2 : Int32} {x3 : Int32} {x4 : Int32} {x5 : Int32} {x6 : Int32} {h : am_H} {Q : am_Q} (k : m_Draws_strokesPlayed d [.ref 18] h (fun r hh => am_W (X_Club_drawn (d + 1)) 104 [some (.ref 0), some (.int x1), some (.int x2), some (.int x3), some (.int x4), some (.int x5), some (.int x6)] (r.toList ++ []) hh Q)) : am_W (X_Club_drawn (d + 1)) 97 [some (.ref 0), some (.int x1), some (.int x2), some (.int x3), some (.int x4), some (.int x5), some (.int x6)] [] h Q :=
  am_aload_n d_Club_drawn_97 rfl (i := 0) rfl <|
    am_getR (ci := 0) (i := 4) rfl rfl rfl (Nat.le_of_ble_eq_true rfl) w_366 d_Club_drawn_98 <|
    am_callV (vs := []) (st := []) (k := 18) (ci := 5) rfl d_Club_drawn_101 rfl rfl w_1043 w_1044 w_1045 w_89 w_1046 p_Draws_strokesPlayed (Nat.le_of_ble_eq_true rfl) (Nat.le_of_ble_eq_true rfl) rfl k
theorem b_Club_drawn_104 {d : Nat} {x1 : Int32} {x2 : Int32} {x3 : Int32} {x4 : Int32} {x5 : Int32} {x6 : Int32} {y0 : Int32} {h : am_H} {Q : am_Q} (q : Q (some (.int y0)) h) : am_W (X_Club_drawn d) 104 [some (.ref 0), some (.int x1), some (.int x2), some (.int x3), some (.int x4), some (.int x5), some (.int x6)] [.int y0] h Q :=
  am_goto (tgt := 114) d_Club_drawn_104 (by decide) <|
    am_iret rfl d_Club_drawn_114 q
theorem b_Club_drawn_107 {d : Nat} {x1 : Int32} {x2 : Int32} {x3 : Int32} {x4 : Int32} {x5 : Int32} {x6 : Int32} {h : am_H} {Q : am_Q} (k : m_Draws_timesInWater d [.ref 18] h (fun r hh => am_W (X_Club_drawn (d + 1)) 114 [some (.ref 0), some (.int x1), some (.int x2), some (.int x3), some (.int x4), some (.int x5), some (.int x6)] (r.toList ++ []) hh Q)) : am_W (X_Club_drawn (d + 1)) 107 [some (.ref 0), some (.int x1), some (.int x2), some (.int x3), some (.int x4), some (.int x5), some (.int x6)] [] h Q :=
  am_aload_n d_Club_drawn_107 rfl (i := 0) rfl <|
    am_getR (ci := 0) (i := 4) rfl rfl rfl (Nat.le_of_ble_eq_true rfl) w_366 d_Club_drawn_108 <|
    am_callV (vs := []) (st := []) (k := 18) (ci := 5) rfl d_Club_drawn_111 rfl rfl w_1047 w_1048 w_1049 w_89 w_1050 p_Draws_timesInWater (Nat.le_of_ble_eq_true rfl) (Nat.le_of_ble_eq_true rfl) rfl k
theorem b_Club_drawn_114 {d : Nat} {x1 : Int32} {x2 : Int32} {x3 : Int32} {x4 : Int32} {x5 : Int32} {x6 : Int32} {y0 : Int32} {h : am_H} {Q : am_Q} (q : Q (some (.int y0)) h) : am_W (X_Club_drawn d) 114 [some (.ref 0), some (.int x1), some (.int x2), some (.int x3), some (.int x4), some (.int x5), some (.int x6)] [.int y0] h Q :=
  am_iret rfl d_Club_drawn_114 q
theorem t_Club_drawn_56 {d : Nat} {x1 : Int32} {x2 : Int32} {x3 : Int32} {x4 : Int32} {x5 : Int32} {x6 : Int32} {h : am_H} {Q : am_Q} {res : Int32 × am_H} (e : f_Club_drawn_56 h = some res) (q : Q (some (.int res.1)) res.2) : am_W (X_Club_drawn (d + 6)) 56 [some (.ref 0), some (.int x1), some (.int x2), some (.int x3), some (.int x4), some (.int x5), some (.int x6)] [] h Q :=
  b_Club_drawn_56 (d := (d + 6)) (q := (am_rIpi (v := (-1)) e q))
theorem t_Club_drawn_114 {d : Nat} {x1 : Int32} {x2 : Int32} {x3 : Int32} {x4 : Int32} {x5 : Int32} {x6 : Int32} {y0 : Int32} {h : am_H} {Q : am_Q} {res : Int32 × am_H} (e : f_Club_drawn_114 h y0 = some res) (q : Q (some (.int res.1)) res.2) : am_W (X_Club_drawn (d + 6)) 114 [some (.ref 0), some (.int x1), some (.int x2), some (.int x3), some (.int x4), some (.int x5), some (.int x6)] [.int y0] h Q :=
  b_Club_drawn_114 (d := (d + 6)) (q := (am_rIpi (v := y0) e q))
theorem t_Club_drawn_107 {d : Nat} {x1 : Int32} {x2 : Int32} {x3 : Int32} {x4 : Int32} {x5 : Int32} {x6 : Int32} {h : am_H} {Q : am_Q} {res : Int32 × am_H} (e : f_Club_drawn_107 h = some res) (q : Q (some (.int res.1)) res.2) : am_W (X_Club_drawn (d + 6)) 107 [some (.ref 0), some (.int x1), some (.int x2), some (.int x3), some (.int x4), some (.int x5), some (.int x6)] [] h Q :=
  b_Club_drawn_107 (d := (d + 5)) (k := c_Draws_timesInWater (d := d + 5) rfl (t_Club_drawn_114 e q))
theorem t_Club_drawn_104 {d : Nat} {x1 : Int32} {x2 : Int32} {x3 : Int32} {x4 : Int32} {x5 : Int32} {x6 : Int32} {y0 : Int32} {h : am_H} {Q : am_Q} {res : Int32 × am_H} (e : f_Club_drawn_104 h y0 = some res) (q : Q (some (.int res.1)) res.2) : am_W (X_Club_drawn (d + 6)) 104 [some (.ref 0), some (.int x1), some (.int x2), some (.int x3), some (.int x4), some (.int x5), some (.int x6)] [.int y0] h Q :=
  b_Club_drawn_104 (d := (d + 6)) (q := (am_rIpi (v := y0) e q))
theorem t_Club_drawn_97 {d : Nat} {x1 : Int32} {x2 : Int32} {x3 : Int32} {x4 : Int32} {x5 : Int32} {x6 : Int32} {h : am_H} {Q : am_Q} {res : Int32 × am_H} (e : f_Club_drawn_97 h = some res) (q : Q (some (.int res.1)) res.2) : am_W (X_Club_drawn (d + 6)) 97 [some (.ref 0), some (.int x1), some (.int x2), some (.int x3), some (.int x4), some (.int x5), some (.int x6)] [] h Q :=
  b_Club_drawn_97 (d := (d + 5)) (k := c_Draws_strokesPlayed (d := d + 5) rfl (t_Club_drawn_104 e q))
theorem t_Club_drawn_93 {d : Nat} {x1 : Int32} {x2 : Int32} {x3 : Int32} {x4 : Int32} {x5 : Int32} {x6 : Int32} {h : am_H} {Q : am_Q} {res : Int32 × am_H} (e : f_Club_drawn_93 h x3 = some res) (q : Q (some (.int res.1)) res.2) : am_W (X_Club_drawn (d + 6)) 93 [some (.ref 0), some (.int x1), some (.int x2), some (.int x3), some (.int x4), some (.int x5), some (.int x6)] [] h Q :=
  b_Club_drawn_93 (d := (d + 6)) (kt := fun c => (t_Club_drawn_107 (am_ife e c) q)) (kf := fun c => (t_Club_drawn_97 (am_ift e c) q))
theorem t_Club_drawn_81 {d : Nat} {x1 : Int32} {x2 : Int32} {x3 : Int32} {x4 : Int32} {x5 : Int32} {x6 : Int32} {h : am_H} {Q : am_Q} {res : Int32 × am_H} (e : f_Club_drawn_81 h x1 x3 x4 x5 = some res) (q : Q (some (.int res.1)) res.2) : am_W (X_Club_drawn (d + 6)) 81 [some (.ref 0), some (.int x1), some (.int x2), some (.int x3), some (.int x4), some (.int x5), some (.int x6)] [] h Q :=
  (am_bd e).elim fun p hp => b_Club_drawn_81 (d := (d + 5)) (k := c_Draws_playHoles (d := d) hp.1 (t_Club_drawn_93 hp.2 q))
theorem t_Club_drawn_71 {d : Nat} {x1 : Int32} {x2 : Int32} {x3 : Int32} {x4 : Int32} {x5 : Int32} {x6 : Int32} {h : am_H} {Q : am_Q} {res : Int32 × am_H} (e : f_Club_drawn_71 h x1 x3 x4 x5 = some res) (q : Q (some (.int res.1)) res.2) : am_W (X_Club_drawn (d + 6)) 71 [some (.ref 0), some (.int x1), some (.int x2), some (.int x3), some (.int x4), some (.int x5), some (.int x6)] [] h Q :=
  (am_bd e).elim fun p hp => b_Club_drawn_71 (d := (d + 5)) (k := c_Reck_findClubs (d := d) hp.1 (t_Club_drawn_81 hp.2 q))
theorem t_Club_drawn_68 {d : Nat} {x1 : Int32} {x2 : Int32} {x3 : Int32} {x4 : Int32} {x5 : Int32} {x6 : Int32} {h : am_H} {Q : am_Q} {res : Int32 × am_H} (e : f_Club_drawn_68 h = some res) (q : Q (some (.int res.1)) res.2) : am_W (X_Club_drawn (d + 6)) 68 [some (.ref 0), some (.int x1), some (.int x2), some (.int x3), some (.int x4), some (.int x5), some (.int x6)] [] h Q :=
  b_Club_drawn_68 (d := (d + 6)) (q := (am_rIpi (v := (-5)) e q))
theorem t_Club_drawn_65 {d : Nat} {x1 : Int32} {x2 : Int32} {x3 : Int32} {x4 : Int32} {x5 : Int32} {x6 : Int32} {y0 : Bool} {h : am_H} {Q : am_Q} {res : Int32 × am_H} (e : f_Club_drawn_65 h x1 x3 x4 x5 y0 = some res) (q : Q (some (.int res.1)) res.2) : am_W (X_Club_drawn (d + 6)) 65 [some (.ref 0), some (.int x1), some (.int x2), some (.int x3), some (.int x4), some (.int x5), some (.int x6)] [.int (am_b y0)] h Q :=
  b_Club_drawn_65 (d := (d + 6)) (kt := fun c => (t_Club_drawn_71 (am_iff e (am_bz c)) q)) (kf := fun c => (t_Club_drawn_68 (am_ift e (am_bn c)) q))
theorem t_Club_drawn_58 {d : Nat} {x1 : Int32} {x2 : Int32} {x3 : Int32} {x4 : Int32} {x5 : Int32} {x6 : Int32} {h : am_H} {Q : am_Q} {res : Int32 × am_H} (e : f_Club_drawn_58 h x1 x3 x4 x5 = some res) (q : Q (some (.int res.1)) res.2) : am_W (X_Club_drawn (d + 6)) 58 [some (.ref 0), some (.int x1), some (.int x2), some (.int x3), some (.int x4), some (.int x5), some (.int x6)] [] h Q :=
  b_Club_drawn_58 (d := (d + 5)) (k := c_Hole_hasNoClubs (d := d + 5) rfl (t_Club_drawn_65 e q))
theorem t_Club_drawn_51 {d : Nat} {x1 : Int32} {x2 : Int32} {x3 : Int32} {x4 : Int32} {x5 : Int32} {x6 : Int32} {h : am_H} {Q : am_Q} {res : Int32 × am_H} (e : f_Club_drawn_51 h x1 x3 x4 x5 = some res) (q : Q (some (.int res.1)) res.2) : am_W (X_Club_drawn (d + 6)) 51 [some (.ref 0), some (.int x1), some (.int x2), some (.int x3), some (.int x4), some (.int x5), some (.int x6)] [] h Q :=
  b_Club_drawn_51 (d := (d + 6)) (kt := fun c => (t_Club_drawn_58 (am_ift e c) q)) (kf := fun c => (t_Club_drawn_56 (am_ife e c) q))
theorem t_Club_drawn_47 {d : Nat} {x1 : Int32} {x2 : Int32} {x3 : Int32} {x4 : Int32} {x5 : Int32} {x6 : Int32} {h : am_H} {Q : am_Q} {res : Int32 × am_H} (e : f_Club_drawn_47 h x1 x3 x4 x5 = some res) (q : Q (some (.int res.1)) res.2) : am_W (X_Club_drawn (d + 6)) 47 [some (.ref 0), some (.int x1), some (.int x2), some (.int x3), some (.int x4), some (.int x5), some (.int x6)] [] h Q :=
  b_Club_drawn_47 (d := (d + 6)) (kt := fun c => (t_Club_drawn_56 (am_ift e c) q)) (kf := fun c => (t_Club_drawn_51 (am_ife e c) q))
theorem t_Club_drawn_40 {d : Nat} {x1 : Int32} {x2 : Int32} {x3 : Int32} {x4 : Int32} {x5 : Int32} {y0 : Int32} {h : am_H} {Q : am_Q} {res : Int32 × am_H} (e : f_Club_drawn_40 h x1 x3 x4 x5 y0 = some res) (q : Q (some (.int res.1)) res.2) : am_W (X_Club_drawn (d + 6)) 40 [some (.ref 0), some (.int x1), some (.int x2), some (.int x3), some (.int x4), some (.int x5), none] [.int y0] h Q :=
  b_Club_drawn_40 (d := (d + 6)) (kt := fun c => (t_Club_drawn_56 (am_ift e c) q)) (kf := fun c => (t_Club_drawn_47 (am_ife e c) q))
theorem t_Club_drawn_39 {d : Nat} {x1 : Int32} {x2 : Int32} {x3 : Int32} {x4 : Int32} {x5 : Int32} {h : am_H} {Q : am_Q} {res : Int32 × am_H} (e : f_Club_drawn_39 h x1 x3 x4 x5 = some res) (q : Q (some (.int res.1)) res.2) : am_W (X_Club_drawn (d + 6)) 39 [some (.ref 0), some (.int x1), some (.int x2), some (.int x3), some (.int x4), some (.int x5), none] [] h Q :=
  b_Club_drawn_39 (d := (d + 6)) (k := (t_Club_drawn_40 e q))
theorem t_Club_drawn_35 {d : Nat} {x1 : Int32} {x2 : Int32} {x3 : Int32} {x4 : Int32} {x5 : Int32} {h : am_H} {Q : am_Q} {res : Int32 × am_H} (e : f_Club_drawn_35 h x1 x3 x4 x5 = some res) (q : Q (some (.int res.1)) res.2) : am_W (X_Club_drawn (d + 6)) 35 [some (.ref 0), some (.int x1), some (.int x2), some (.int x3), some (.int x4), some (.int x5), none] [] h Q :=
  b_Club_drawn_35 (d := (d + 6)) (k := (t_Club_drawn_40 e q))
theorem t_Club_drawn_29 {d : Nat} {x1 : Int32} {x2 : Int32} {x3 : Int32} {x4 : Int32} {x5 : Int32} {h : am_H} {Q : am_Q} {res : Int32 × am_H} (e : f_Club_drawn_29 h x1 x3 x4 x5 = some res) (q : Q (some (.int res.1)) res.2) : am_W (X_Club_drawn (d + 6)) 29 [some (.ref 0), some (.int x1), some (.int x2), some (.int x3), some (.int x4), some (.int x5), none] [] h Q :=
  b_Club_drawn_29 (d := (d + 6)) (kt := fun c => (t_Club_drawn_39 (am_ift e c) q)) (kf := fun c => (t_Club_drawn_35 (am_ife e c) q))
theorem t_Club_drawn_22 {d : Nat} {x1 : Int32} {x2 : Int32} {x3 : Int32} {x4 : Int32} {x5 : Int32} {h : am_H} {Q : am_Q} {res : Int32 × am_H} (e : f_Club_drawn_22 h x1 x3 x4 x5 = some res) (q : Q (some (.int res.1)) res.2) : am_W (X_Club_drawn (d + 6)) 22 [some (.ref 0), some (.int x1), some (.int x2), some (.int x3), some (.int x4), some (.int x5), none] [] h Q :=
  b_Club_drawn_22 (d := (d + 6)) (kt := fun c => (t_Club_drawn_39 (am_ift e c) q)) (kf := fun c => (t_Club_drawn_29 (am_ife e c) q))
theorem t_Club_drawn_16 {d : Nat} {x1 : Int32} {x2 : Int32} {x3 : Int32} {x4 : Int32} {x5 : Int32} {h : am_H} {Q : am_Q} {res : Int32 × am_H} (e : f_Club_drawn_16 h x1 x3 x4 x5 = some res) (q : Q (some (.int res.1)) res.2) : am_W (X_Club_drawn (d + 6)) 16 [some (.ref 0), some (.int x1), some (.int x2), some (.int x3), some (.int x4), some (.int x5), none] [] h Q :=
  b_Club_drawn_16 (d := (d + 6)) (kt := fun c => (t_Club_drawn_39 (am_ift e c) q)) (kf := fun c => (t_Club_drawn_22 (am_ife e c) q))
theorem t_Club_drawn_0 {d : Nat} {x1 : Int32} {x2 : Int32} {x3 : Int32} {h : am_H} {Q : am_Q} {res : Int32 × am_H} (e : f_Club_drawn h x1 x2 x3 = some res) (q : Q (some (.int res.1)) res.2) : am_W (X_Club_drawn (d + 6)) 0 [some (.ref 0), some (.int x1), some (.int x2), some (.int x3), none, none, none] [] h Q :=
  b_Club_drawn_0 (d := (d + 6)) (kt := fun c => (t_Club_drawn_39 (am_ift e c) q)) (kf := fun c => (t_Club_drawn_16 (am_ife e c) q))
theorem c_Club_drawn {d : Nat} {x1 : Int32} {x2 : Int32} {x3 : Int32} {h : am_H} {Q : am_Q} {res : Int32 × am_H} (e : f_Club_drawn h x1 x2 x3 = some res) (q : Q (some (.int res.1)) res.2) : m_Club_drawn (d + 6) [.ref 0, .int x1, .int x2, .int x3] h Q :=
  e_Club_drawn (t_Club_drawn_0 e q)
theorem d_Deed_playShot_0 : decode prog_3_method_4_code 0 = .ok (.aload_n 0, 1) := by decide +kernel
theorem d_Deed_playShot_1 : decode prog_3_method_4_code 1 = .ok (.getfield 26, 3) := by decide +kernel
theorem d_Deed_playShot_4 : decode prog_3_method_4_code 4 = .ok (.iload_n 2, 1) := by decide +kernel
theorem d_Deed_playShot_5 : decode prog_3_method_4_code 5 = .ok (.invokevirtual 30, 3) := by decide +kernel
theorem d_Deed_playShot_8 : decode prog_3_method_4_code 8 = .ok (.aload_n 0, 1) := by decide +kernel
theorem d_Deed_playShot_9 : decode prog_3_method_4_code 9 = .ok (.getfield 26, 3) := by decide +kernel
theorem d_Deed_playShot_12 : decode prog_3_method_4_code 12 = .ok (.aload_n 0, 1) := by decide +kernel
theorem d_Deed_playShot_13 : decode prog_3_method_4_code 13 = .ok (.getfield 11, 3) := by decide +kernel
theorem d_Deed_playShot_16 : decode prog_3_method_4_code 16 = .ok (.iconst 5, 1) := by decide +kernel
theorem d_Deed_playShot_17 : decode prog_3_method_4_code 17 = .ok (.iaload, 1) := by decide +kernel
theorem d_Deed_playShot_18 : decode prog_3_method_4_code 18 = .ok (.iload_n 1, 1) := by decide +kernel
theorem d_Deed_playShot_19 : decode prog_3_method_4_code 19 = .ok (.invokevirtual 36, 3) := by decide +kernel
theorem d_Deed_playShot_22 : decode prog_3_method_4_code 22 = .ok (.istore_n 3, 1) := by decide +kernel
theorem d_Deed_playShot_23 : decode prog_3_method_4_code 23 = .ok (.aload_n 0, 1) := by decide +kernel
theorem d_Deed_playShot_24 : decode prog_3_method_4_code 24 = .ok (.getfield 11, 3) := by decide +kernel
theorem d_Deed_playShot_27 : decode prog_3_method_4_code 27 = .ok (.iconst 0, 1) := by decide +kernel
theorem d_Deed_playShot_28 : decode prog_3_method_4_code 28 = .ok (.dup2, 1) := by decide +kernel
theorem d_Deed_playShot_29 : decode prog_3_method_4_code 29 = .ok (.iaload, 1) := by decide +kernel
theorem d_Deed_playShot_30 : decode prog_3_method_4_code 30 = .ok (.iconst 1, 1) := by decide +kernel
theorem d_Deed_playShot_31 : decode prog_3_method_4_code 31 = .ok (.iadd, 1) := by decide +kernel
theorem d_Deed_playShot_32 : decode prog_3_method_4_code 32 = .ok (.iastore, 1) := by decide +kernel
theorem d_Deed_playShot_33 : decode prog_3_method_4_code 33 = .ok (.aload_n 0, 1) := by decide +kernel
theorem d_Deed_playShot_34 : decode prog_3_method_4_code 34 = .ok (.getfield 22, 3) := by decide +kernel
theorem d_Deed_playShot_37 : decode prog_3_method_4_code 37 = .ok (.iload_n 3, 1) := by decide +kernel
theorem d_Deed_playShot_38 : decode prog_3_method_4_code 38 = .ok (.invokevirtual 40, 3) := by decide +kernel
theorem d_Deed_playShot_41 : decode prog_3_method_4_code 41 = .ok (.ifCond .eq 26, 3) := by decide +kernel
theorem d_Deed_playShot_44 : decode prog_3_method_4_code 44 = .ok (.aload_n 0, 1) := by decide +kernel
theorem d_Deed_playShot_45 : decode prog_3_method_4_code 45 = .ok (.getfield 11, 3) := by decide +kernel
theorem d_Deed_playShot_48 : decode prog_3_method_4_code 48 = .ok (.iconst 0, 1) := by decide +kernel
theorem d_Deed_playShot_49 : decode prog_3_method_4_code 49 = .ok (.dup2, 1) := by decide +kernel
theorem d_Deed_playShot_50 : decode prog_3_method_4_code 50 = .ok (.iaload, 1) := by decide +kernel
theorem d_Deed_playShot_51 : decode prog_3_method_4_code 51 = .ok (.iconst 1, 1) := by decide +kernel
theorem d_Deed_playShot_52 : decode prog_3_method_4_code 52 = .ok (.iadd, 1) := by decide +kernel
theorem d_Deed_playShot_53 : decode prog_3_method_4_code 53 = .ok (.iastore, 1) := by decide +kernel
theorem d_Deed_playShot_54 : decode prog_3_method_4_code 54 = .ok (.aload_n 0, 1) := by decide +kernel
theorem d_Deed_playShot_55 : decode prog_3_method_4_code 55 = .ok (.getfield 11, 3) := by decide +kernel
theorem d_Deed_playShot_58 : decode prog_3_method_4_code 58 = .ok (.iconst 3, 1) := by decide +kernel
theorem d_Deed_playShot_59 : decode prog_3_method_4_code 59 = .ok (.dup2, 1) := by decide +kernel
theorem d_Deed_playShot_60 : decode prog_3_method_4_code 60 = .ok (.iaload, 1) := by decide +kernel
theorem d_Deed_playShot_61 : decode prog_3_method_4_code 61 = .ok (.iconst 1, 1) := by decide +kernel
theorem d_Deed_playShot_62 : decode prog_3_method_4_code 62 = .ok (.iadd, 1) := by decide +kernel
theorem d_Deed_playShot_63 : decode prog_3_method_4_code 63 = .ok (.iastore, 1) := by decide +kernel
theorem d_Deed_playShot_64 : decode prog_3_method_4_code 64 = .ok (.goto 10, 3) := by decide +kernel
theorem d_Deed_playShot_67 : decode prog_3_method_4_code 67 = .ok (.aload_n 0, 1) := by decide +kernel
theorem d_Deed_playShot_68 : decode prog_3_method_4_code 68 = .ok (.getfield 11, 3) := by decide +kernel
theorem d_Deed_playShot_71 : decode prog_3_method_4_code 71 = .ok (.iconst 5, 1) := by decide +kernel
theorem d_Deed_playShot_72 : decode prog_3_method_4_code 72 = .ok (.iload_n 3, 1) := by decide +kernel
theorem d_Deed_playShot_73 : decode prog_3_method_4_code 73 = .ok (.iastore, 1) := by decide +kernel
theorem d_Deed_playShot_74 : decode prog_3_method_4_code 74 = .ok (.aload_n 0, 1) := by decide +kernel
theorem d_Deed_playShot_75 : decode prog_3_method_4_code 75 = .ok (.getfield 11, 3) := by decide +kernel
theorem d_Deed_playShot_78 : decode prog_3_method_4_code 78 = .ok (.iconst 5, 1) := by decide +kernel
theorem d_Deed_playShot_79 : decode prog_3_method_4_code 79 = .ok (.iaload, 1) := by decide +kernel
theorem d_Deed_playShot_80 : decode prog_3_method_4_code 80 = .ok (.ireturn, 1) := by decide +kernel
theorem b_Deed_playShot_0 {d : Nat} {x1 : Int32} {x2 : Int32} {h : am_H} {Q : am_Q} (k : m_Draws_begin d [.ref 18, .int x2] h (fun r hh => am_W (X_Deed_playShot (d + 1)) 8 [some (.ref 19), some (.int x1), some (.int x2), none] (r.toList ++ []) hh Q)) : am_W (X_Deed_playShot (d + 1)) 0 [some (.ref 19), some (.int x1), some (.int x2), none] [] h Q :=
  am_aload_n d_Deed_playShot_0 rfl (i := 0) rfl <|
    am_getR (ci := 6) (i := 1) rfl rfl rfl (Nat.le_of_ble_eq_true rfl) w_283 d_Deed_playShot_1 <|
    am_iload_n d_Deed_playShot_4 rfl (i := 2) rfl <|
    am_callV (vs := [.int x2]) (st := []) (k := 18) (ci := 5) rfl d_Deed_playShot_5 rfl rfl w_1059 w_1006 w_1007 w_89 w_1008 p_Draws_begin (Nat.le_of_ble_eq_true rfl) (Nat.le_of_ble_eq_true rfl) rfl k
theorem b_Deed_playShot_8 {d : Nat} {x1 : Int32} {x2 : Int32} {h : am_H} {Q : am_Q} (k : m_Draws_fall d [.ref 18, .int (h.1 20 (5 : Int32).toNatClampNeg), .int x1] h (fun r hh => am_W (X_Deed_playShot (d + 1)) 22 [some (.ref 19), some (.int x1), some (.int x2), none] (r.toList ++ []) hh Q)) : am_W (X_Deed_playShot (d + 1)) 8 [some (.ref 19), some (.int x1), some (.int x2), none] [] h Q :=
  am_aload_n d_Deed_playShot_8 rfl (i := 0) rfl <|
    am_getR (ci := 6) (i := 1) rfl rfl rfl (Nat.le_of_ble_eq_true rfl) w_283 d_Deed_playShot_9 <|
    am_aload_n d_Deed_playShot_12 rfl (i := 0) rfl <|
    am_getR (ci := 6) (i := 2) rfl rfl rfl (Nat.le_of_ble_eq_true rfl) w_284 d_Deed_playShot_13 <|
    am_iconst (v := 5) d_Deed_playShot_16 (by decide) <|
    am_iald rfl (am_vin (by decide)) d_Deed_playShot_17 <|
    am_iload_n d_Deed_playShot_18 rfl (i := 1) rfl <|
    am_callV (vs := [.int (h.1 20 (5 : Int32).toNatClampNeg), .int x1]) (st := []) (k := 18) (ci := 5) rfl d_Deed_playShot_19 rfl rfl w_1060 w_1017 w_1018 w_89 w_1019 p_Draws_fall (Nat.le_of_ble_eq_true rfl) (Nat.le_of_ble_eq_true rfl) rfl k
theorem b_Deed_playShot_22 {d : Nat} {x1 : Int32} {x2 : Int32} {y0 : Int32} {h : am_H} {Q : am_Q} (k : m_Hole_isWater d [.ref 1, .int y0] (am_pI h 20 (0 : Int32).toNatClampNeg ((h.1 20 (0 : Int32).toNatClampNeg) + 1)) (fun r hh => am_W (X_Deed_playShot (d + 1)) 41 [some (.ref 19), some (.int x1), some (.int x2), some (.int y0)] (r.toList ++ []) hh Q)) : am_W (X_Deed_playShot (d + 1)) 22 [some (.ref 19), some (.int x1), some (.int x2), none] [.int y0] h Q :=
  am_istore_n (ls' := [some (.ref 19), some (.int x1), some (.int x2), some (.int y0)]) d_Deed_playShot_22 rfl (Nat.le_of_ble_eq_true rfl) rfl <|
    am_aload_n d_Deed_playShot_23 rfl (i := 0) rfl <|
    am_getR (ci := 6) (i := 2) rfl rfl rfl (Nat.le_of_ble_eq_true rfl) w_284 d_Deed_playShot_24 <|
    am_iconst (v := 0) d_Deed_playShot_27 (by decide) <|
    am_dup2RI d_Deed_playShot_28 <|
    am_iald rfl (am_vin (by decide)) d_Deed_playShot_29 <|
    am_iconst (v := 1) d_Deed_playShot_30 (by decide) <|
    am_iadd d_Deed_playShot_31 <|
    am_iast rfl (am_vin (by decide)) d_Deed_playShot_32 <|
    am_aload_n d_Deed_playShot_33 rfl (i := 0) rfl <|
    am_getR (ci := 6) (i := 0) rfl rfl rfl (Nat.le_of_ble_eq_true rfl) w_282 d_Deed_playShot_34 <|
    am_iload_n d_Deed_playShot_37 rfl (i := 3) rfl <|
    am_callV (vs := [.int y0]) (st := []) (k := 1) (ci := 1) rfl d_Deed_playShot_38 rfl rfl w_1061 w_704 w_705 w_84 w_706 p_Hole_isWater (Nat.le_of_ble_eq_true rfl) (Nat.le_of_ble_eq_true rfl) rfl k
theorem b_Deed_playShot_41 {d : Nat} {x1 : Int32} {x2 : Int32} {x3 : Int32} {y0 : Bool} {h : am_H} {Q : am_Q} (kt : (am_b y0) = 0 → am_W (X_Deed_playShot d) 67 [some (.ref 19), some (.int x1), some (.int x2), some (.int x3)] [] h Q) (kf : ¬ (am_b y0) = 0 → am_W (X_Deed_playShot d) 44 [some (.ref 19), some (.int x1), some (.int x2), some (.int x3)] [] h Q) : am_W (X_Deed_playShot d) 41 [some (.ref 19), some (.int x1), some (.int x2), some (.int x3)] [.int (am_b y0)] h Q :=
  am_if_eq (tgt := 67) d_Deed_playShot_41 (by decide) kt kf
theorem b_Deed_playShot_44 {d : Nat} {x1 : Int32} {x2 : Int32} {x3 : Int32} {h : am_H} {Q : am_Q} (k : am_W (X_Deed_playShot d) 74 [some (.ref 19), some (.int x1), some (.int x2), some (.int x3)] [] (am_pI (am_pI h 20 (0 : Int32).toNatClampNeg ((h.1 20 (0 : Int32).toNatClampNeg) + 1)) 20 (3 : Int32).toNatClampNeg (((am_pI h 20 (0 : Int32).toNatClampNeg ((h.1 20 (0 : Int32).toNatClampNeg) + 1)).1 20 (3 : Int32).toNatClampNeg) + 1)) Q) : am_W (X_Deed_playShot d) 44 [some (.ref 19), some (.int x1), some (.int x2), some (.int x3)] [] h Q :=
  am_aload_n d_Deed_playShot_44 rfl (i := 0) rfl <|
    am_getR (ci := 6) (i := 2) rfl rfl rfl (Nat.le_of_ble_eq_true rfl) w_284 d_Deed_playShot_45 <|
    am_iconst (v := 0) d_Deed_playShot_48 (by decide) <|
    am_dup2RI d_Deed_playShot_49 <|
    am_iald rfl (am_vin (by decide)) d_Deed_playShot_50 <|
    am_iconst (v := 1) d_Deed_playShot_51 (by decide) <|
    am_iadd d_Deed_playShot_52 <|
    am_iast rfl (am_vin (by decide)) d_Deed_playShot_53 <|
    am_aload_n d_Deed_playShot_54 rfl (i := 0) rfl <|
    am_getR (ci := 6) (i := 2) rfl rfl rfl (Nat.le_of_ble_eq_true rfl) w_284 d_Deed_playShot_55 <|
    am_iconst (v := 3) d_Deed_playShot_58 (by decide) <|
    am_dup2RI d_Deed_playShot_59 <|
    am_iald rfl (am_vin (by decide)) d_Deed_playShot_60 <|
    am_iconst (v := 1) d_Deed_playShot_61 (by decide) <|
    am_iadd d_Deed_playShot_62 <|
    am_iast rfl (am_vin (by decide)) d_Deed_playShot_63 <|
    am_goto (tgt := 74) d_Deed_playShot_64 (by decide) k
theorem b_Deed_playShot_67 {d : Nat} {x1 : Int32} {x2 : Int32} {x3 : Int32} {h : am_H} {Q : am_Q} (k : am_W (X_Deed_playShot d) 74 [some (.ref 19), some (.int x1), some (.int x2), some (.int x3)] [] (am_pI h 20 (5 : Int32).toNatClampNeg x3) Q) : am_W (X_Deed_playShot d) 67 [some (.ref 19), some (.int x1), some (.int x2), some (.int x3)] [] h Q :=
  am_aload_n d_Deed_playShot_67 rfl (i := 0) rfl <|
    am_getR (ci := 6) (i := 2) rfl rfl rfl (Nat.le_of_ble_eq_true rfl) w_284 d_Deed_playShot_68 <|
    am_iconst (v := 5) d_Deed_playShot_71 (by decide) <|
    am_iload_n d_Deed_playShot_72 rfl (i := 3) rfl <|
    am_iast rfl (am_vin (by decide)) d_Deed_playShot_73 <|
    k
theorem b_Deed_playShot_74 {d : Nat} {x1 : Int32} {x2 : Int32} {x3 : Int32} {h : am_H} {Q : am_Q} (q : Q (some (.int (h.1 20 (5 : Int32).toNatClampNeg))) h) : am_W (X_Deed_playShot d) 74 [some (.ref 19), some (.int x1), some (.int x2), some (.int x3)] [] h Q :=
  am_aload_n d_Deed_playShot_74 rfl (i := 0) rfl <|
    am_getR (ci := 6) (i := 2) rfl rfl rfl (Nat.le_of_ble_eq_true rfl) w_284 d_Deed_playShot_75 <|
    am_iconst (v := 5) d_Deed_playShot_78 (by decide) <|
    am_iald rfl (am_vin (by decide)) d_Deed_playShot_79 <|
    am_iret rfl d_Deed_playShot_80 q
theorem t_Deed_playShot_74 {d : Nat} {x1 : Int32} {x2 : Int32} {x3 : Int32} {h : am_H} {Q : am_Q} {res : Int32 × am_H} (e : f_Deed_playShot_74 h = some res) (q : Q (some (.int res.1)) res.2) : am_W (X_Deed_playShot (d + 4)) 74 [some (.ref 19), some (.int x1), some (.int x2), some (.int x3)] [] h Q :=
  b_Deed_playShot_74 (d := (d + 4)) (q := (am_rIpi (v := (h.1 20 (5 : Int32).toNatClampNeg)) e q))
theorem t_Deed_playShot_67 {d : Nat} {x1 : Int32} {x2 : Int32} {x3 : Int32} {h : am_H} {Q : am_Q} {res : Int32 × am_H} (e : f_Deed_playShot_67 h x3 = some res) (q : Q (some (.int res.1)) res.2) : am_W (X_Deed_playShot (d + 4)) 67 [some (.ref 19), some (.int x1), some (.int x2), some (.int x3)] [] h Q :=
  b_Deed_playShot_67 (d := (d + 4)) (k := (t_Deed_playShot_74 e q))
theorem t_Deed_playShot_44 {d : Nat} {x1 : Int32} {x2 : Int32} {x3 : Int32} {h : am_H} {Q : am_Q} {res : Int32 × am_H} (e : f_Deed_playShot_44 h = some res) (q : Q (some (.int res.1)) res.2) : am_W (X_Deed_playShot (d + 4)) 44 [some (.ref 19), some (.int x1), some (.int x2), some (.int x3)] [] h Q :=
  b_Deed_playShot_44 (d := (d + 4)) (k := (t_Deed_playShot_74 e q))
theorem t_Deed_playShot_41 {d : Nat} {x1 : Int32} {x2 : Int32} {x3 : Int32} {y0 : Bool} {h : am_H} {Q : am_Q} {res : Int32 × am_H} (e : f_Deed_playShot_41 h x3 y0 = some res) (q : Q (some (.int res.1)) res.2) : am_W (X_Deed_playShot (d + 4)) 41 [some (.ref 19), some (.int x1), some (.int x2), some (.int x3)] [.int (am_b y0)] h Q :=
  b_Deed_playShot_41 (d := (d + 4)) (kt := fun c => (t_Deed_playShot_67 (am_iff e (am_bz c)) q)) (kf := fun c => (t_Deed_playShot_44 (am_ift e (am_bn c)) q))
theorem t_Deed_playShot_22 {d : Nat} {x1 : Int32} {x2 : Int32} {y0 : Int32} {h : am_H} {Q : am_Q} {res : Int32 × am_H} (e : f_Deed_playShot_22 h y0 = some res) (q : Q (some (.int res.1)) res.2) : am_W (X_Deed_playShot (d + 4)) 22 [some (.ref 19), some (.int x1), some (.int x2), none] [.int y0] h Q :=
  (am_bd e).elim fun p hp => b_Deed_playShot_22 (d := (d + 3)) (k := c_Hole_isWater (d := d + 2) hp.1 (t_Deed_playShot_41 hp.2 q))
theorem t_Deed_playShot_8 {d : Nat} {x1 : Int32} {x2 : Int32} {h : am_H} {Q : am_Q} {res : Int32 × am_H} (e : f_Deed_playShot_8 h x1 = some res) (q : Q (some (.int res.1)) res.2) : am_W (X_Deed_playShot (d + 4)) 8 [some (.ref 19), some (.int x1), some (.int x2), none] [] h Q :=
  (am_bd e).elim fun p hp => b_Deed_playShot_8 (d := (d + 3)) (k := c_Draws_fall (d := d) hp.1 (t_Deed_playShot_22 hp.2 q))
theorem t_Deed_playShot_0 {d : Nat} {x1 : Int32} {x2 : Int32} {h : am_H} {Q : am_Q} {res : Int32 × am_H} (e : f_Deed_playShot h x1 x2 = some res) (q : Q (some (.int res.1)) res.2) : am_W (X_Deed_playShot (d + 4)) 0 [some (.ref 19), some (.int x1), some (.int x2), none] [] h Q :=
  b_Deed_playShot_0 (d := (d + 3)) (k := c_Draws_begin (d := d + 3) rfl (t_Deed_playShot_8 e q))
theorem c_Deed_playShot {d : Nat} {x1 : Int32} {x2 : Int32} {h : am_H} {Q : am_Q} {res : Int32 × am_H} (e : f_Deed_playShot h x1 x2 = some res) (q : Q (some (.int res.1)) res.2) : m_Deed_playShot (d + 4) [.ref 19, .int x1, .int x2] h Q :=
  e_Deed_playShot (t_Deed_playShot_0 e q)
theorem d_Club_hit_0 : decode prog_1_method_25_code 0 = .ok (.aload_n 0, 1) := by decide +kernel
theorem d_Club_hit_1 : decode prog_1_method_25_code 1 = .ok (.getfield 12, 3) := by decide +kernel
theorem d_Club_hit_4 : decode prog_1_method_25_code 4 = .ok (.iload_n 1, 1) := by decide +kernel
theorem d_Club_hit_5 : decode prog_1_method_25_code 5 = .ok (.invokevirtual 193, 3) := by decide +kernel
theorem d_Club_hit_8 : decode prog_1_method_25_code 8 = .ok (.ifCond .ne 5, 3) := by decide +kernel
theorem d_Club_hit_11 : decode prog_1_method_25_code 11 = .ok (.iconst (-1), 1) := by decide +kernel
theorem d_Club_hit_12 : decode prog_1_method_25_code 12 = .ok (.ireturn, 1) := by decide +kernel
theorem d_Club_hit_13 : decode prog_1_method_25_code 13 = .ok (.aload_n 0, 1) := by decide +kernel
theorem d_Club_hit_14 : decode prog_1_method_25_code 14 = .ok (.getfield 12, 3) := by decide +kernel
theorem d_Club_hit_17 : decode prog_1_method_25_code 17 = .ok (.aload_n 0, 1) := by decide +kernel
theorem d_Club_hit_18 : decode prog_1_method_25_code 18 = .ok (.getfield 55, 3) := by decide +kernel
theorem d_Club_hit_21 : decode prog_1_method_25_code 21 = .ok (.invokevirtual 129, 3) := by decide +kernel
theorem d_Club_hit_24 : decode prog_1_method_25_code 24 = .ok (.invokevirtual 178, 3) := by decide +kernel
theorem d_Club_hit_27 : decode prog_1_method_25_code 27 = .ok (.ifCond .eq 8, 3) := by decide +kernel
theorem d_Club_hit_30 : decode prog_1_method_25_code 30 = .ok (.bipush (-5), 2) := by decide +kernel
theorem d_Club_hit_32 : decode prog_1_method_25_code 32 = .ok (.goto 12, 3) := by decide +kernel
theorem d_Club_hit_35 : decode prog_1_method_25_code 35 = .ok (.aload_n 0, 1) := by decide +kernel
theorem d_Club_hit_36 : decode prog_1_method_25_code 36 = .ok (.getfield 55, 3) := by decide +kernel
theorem d_Club_hit_39 : decode prog_1_method_25_code 39 = .ok (.iload_n 1, 1) := by decide +kernel
theorem d_Club_hit_40 : decode prog_1_method_25_code 40 = .ok (.iload_n 2, 1) := by decide +kernel
theorem d_Club_hit_41 : decode prog_1_method_25_code 41 = .ok (.invokevirtual 272, 3) := by decide +kernel
theorem d_Club_hit_44 : decode prog_1_method_25_code 44 = .ok (.ireturn, 1) := by decide +kernel
theorem b_Club_hit_0 {d : Nat} {x1 : Int32} {x2 : Int32} {h : am_H} {Q : am_Q} (k : m_Hole_hasClub d [.ref 1, .int x1] h (fun r hh => am_W (X_Club_hit (d + 1)) 8 [some (.ref 0), some (.int x1), some (.int x2)] (r.toList ++ []) hh Q)) : am_W (X_Club_hit (d + 1)) 0 [some (.ref 0), some (.int x1), some (.int x2)] [] h Q :=
  am_aload_n d_Club_hit_0 rfl (i := 0) rfl <|
    am_getR (ci := 0) (i := 0) rfl rfl rfl (Nat.le_of_ble_eq_true rfl) w_362 d_Club_hit_1 <|
    am_iload_n d_Club_hit_4 rfl (i := 1) rfl <|
    am_callV (vs := [.int x1]) (st := []) (k := 1) (ci := 1) rfl d_Club_hit_5 rfl rfl w_678 w_472 w_473 w_84 w_474 p_Hole_hasClub (Nat.le_of_ble_eq_true rfl) (Nat.le_of_ble_eq_true rfl) rfl k
theorem b_Club_hit_8 {d : Nat} {x1 : Int32} {x2 : Int32} {y0 : Bool} {h : am_H} {Q : am_Q} (kt : ¬ (am_b y0) = 0 → am_W (X_Club_hit d) 13 [some (.ref 0), some (.int x1), some (.int x2)] [] h Q) (kf : (am_b y0) = 0 → am_W (X_Club_hit d) 11 [some (.ref 0), some (.int x1), some (.int x2)] [] h Q) : am_W (X_Club_hit d) 8 [some (.ref 0), some (.int x1), some (.int x2)] [.int (am_b y0)] h Q :=
  am_if_ne (tgt := 13) d_Club_hit_8 (by decide) kt kf
theorem b_Club_hit_11 {d : Nat} {x1 : Int32} {x2 : Int32} {h : am_H} {Q : am_Q} (q : Q (some (.int (-1))) h) : am_W (X_Club_hit d) 11 [some (.ref 0), some (.int x1), some (.int x2)] [] h Q :=
  am_iconst (v := (-1)) d_Club_hit_11 (by decide) <|
    am_iret rfl d_Club_hit_12 q
theorem b_Club_hit_13 {d : Nat} {x1 : Int32} {x2 : Int32} {h : am_H} {Q : am_Q} (k : m_Deed_place d [.ref 19] h (fun r hh => am_W (X_Club_hit (d + 1)) 24 [some (.ref 0), some (.int x1), some (.int x2)] (r.toList ++ [.ref 1]) hh Q)) : am_W (X_Club_hit (d + 1)) 13 [some (.ref 0), some (.int x1), some (.int x2)] [] h Q :=
  am_aload_n d_Club_hit_13 rfl (i := 0) rfl <|
    am_getR (ci := 0) (i := 0) rfl rfl rfl (Nat.le_of_ble_eq_true rfl) w_362 d_Club_hit_14 <|
    am_aload_n d_Club_hit_17 rfl (i := 0) rfl <|
    am_getR (ci := 0) (i := 5) rfl rfl rfl (Nat.le_of_ble_eq_true rfl) w_367 d_Club_hit_18 <|
    am_callV (vs := []) (st := [.ref 1]) (k := 19) (ci := 6) rfl d_Club_hit_21 rfl rfl w_509 w_510 w_511 w_90 w_512 p_Deed_place (Nat.le_of_ble_eq_true rfl) (Nat.le_of_ble_eq_true rfl) rfl k
theorem b_Club_hit_24 {d : Nat} {x1 : Int32} {x2 : Int32} {y1 : Int32} {h : am_H} {Q : am_Q} (k : m_Hole_isGreen d [.ref 1, .int y1] h (fun r hh => am_W (X_Club_hit (d + 1)) 27 [some (.ref 0), some (.int x1), some (.int x2)] (r.toList ++ []) hh Q)) : am_W (X_Club_hit (d + 1)) 24 [some (.ref 0), some (.int x1), some (.int x2)] [.int y1, .ref 1] h Q :=
  am_callV (vs := [.int y1]) (st := []) (k := 1) (ci := 1) rfl d_Club_hit_24 rfl rfl w_734 w_675 w_676 w_84 w_677 p_Hole_isGreen (Nat.le_of_ble_eq_true rfl) (Nat.le_of_ble_eq_true rfl) rfl k
theorem b_Club_hit_27 {d : Nat} {x1 : Int32} {x2 : Int32} {y0 : Bool} {h : am_H} {Q : am_Q} (kt : (am_b y0) = 0 → am_W (X_Club_hit d) 35 [some (.ref 0), some (.int x1), some (.int x2)] [] h Q) (kf : ¬ (am_b y0) = 0 → am_W (X_Club_hit d) 30 [some (.ref 0), some (.int x1), some (.int x2)] [] h Q) : am_W (X_Club_hit d) 27 [some (.ref 0), some (.int x1), some (.int x2)] [.int (am_b y0)] h Q :=
  am_if_eq (tgt := 35) d_Club_hit_27 (by decide) kt kf
theorem b_Club_hit_30 {d : Nat} {x1 : Int32} {x2 : Int32} {h : am_H} {Q : am_Q} (q : Q (some (.int (-5))) h) : am_W (X_Club_hit d) 30 [some (.ref 0), some (.int x1), some (.int x2)] [] h Q :=
  am_bipush (v := (-5)) d_Club_hit_30 (by decide) <|
    am_goto (tgt := 44) d_Club_hit_32 (by decide) <|
    am_iret rfl d_Club_hit_44 q
theorem b_Club_hit_35 {d : Nat} {x1 : Int32} {x2 : Int32} {h : am_H} {Q : am_Q} (k : m_Deed_playShot d [.ref 19, .int x1, .int x2] h (fun r hh => am_W (X_Club_hit (d + 1)) 44 [some (.ref 0), some (.int x1), some (.int x2)] (r.toList ++ []) hh Q)) : am_W (X_Club_hit (d + 1)) 35 [some (.ref 0), some (.int x1), some (.int x2)] [] h Q :=
  am_aload_n d_Club_hit_35 rfl (i := 0) rfl <|
    am_getR (ci := 0) (i := 5) rfl rfl rfl (Nat.le_of_ble_eq_true rfl) w_367 d_Club_hit_36 <|
    am_iload_n d_Club_hit_39 rfl (i := 1) rfl <|
    am_iload_n d_Club_hit_40 rfl (i := 2) rfl <|
    am_callV (vs := [.int x1, .int x2]) (st := []) (k := 19) (ci := 6) rfl d_Club_hit_41 rfl rfl w_1055 w_1056 w_1057 w_90 w_1058 p_Deed_playShot (Nat.le_of_ble_eq_true rfl) (Nat.le_of_ble_eq_true rfl) rfl k
theorem b_Club_hit_44 {d : Nat} {x1 : Int32} {x2 : Int32} {y0 : Int32} {h : am_H} {Q : am_Q} (q : Q (some (.int y0)) h) : am_W (X_Club_hit d) 44 [some (.ref 0), some (.int x1), some (.int x2)] [.int y0] h Q :=
  am_iret rfl d_Club_hit_44 q
theorem t_Club_hit_44 {d : Nat} {x1 : Int32} {x2 : Int32} {y0 : Int32} {h : am_H} {Q : am_Q} {res : Int32 × am_H} (e : f_Club_hit_44 h y0 = some res) (q : Q (some (.int res.1)) res.2) : am_W (X_Club_hit (d + 5)) 44 [some (.ref 0), some (.int x1), some (.int x2)] [.int y0] h Q :=
  b_Club_hit_44 (d := (d + 5)) (q := (am_rIpi (v := y0) e q))
theorem t_Club_hit_35 {d : Nat} {x1 : Int32} {x2 : Int32} {h : am_H} {Q : am_Q} {res : Int32 × am_H} (e : f_Club_hit_35 h x1 x2 = some res) (q : Q (some (.int res.1)) res.2) : am_W (X_Club_hit (d + 5)) 35 [some (.ref 0), some (.int x1), some (.int x2)] [] h Q :=
  (am_bd e).elim fun p hp => b_Club_hit_35 (d := (d + 4)) (k := c_Deed_playShot (d := d) hp.1 (t_Club_hit_44 hp.2 q))
theorem t_Club_hit_30 {d : Nat} {x1 : Int32} {x2 : Int32} {h : am_H} {Q : am_Q} {res : Int32 × am_H} (e : f_Club_hit_30 h = some res) (q : Q (some (.int res.1)) res.2) : am_W (X_Club_hit (d + 5)) 30 [some (.ref 0), some (.int x1), some (.int x2)] [] h Q :=
  b_Club_hit_30 (d := (d + 5)) (q := (am_rIpi (v := (-5)) e q))
theorem t_Club_hit_27 {d : Nat} {x1 : Int32} {x2 : Int32} {y0 : Bool} {h : am_H} {Q : am_Q} {res : Int32 × am_H} (e : f_Club_hit_27 h x1 x2 y0 = some res) (q : Q (some (.int res.1)) res.2) : am_W (X_Club_hit (d + 5)) 27 [some (.ref 0), some (.int x1), some (.int x2)] [.int (am_b y0)] h Q :=
  b_Club_hit_27 (d := (d + 5)) (kt := fun c => (t_Club_hit_35 (am_iff e (am_bz c)) q)) (kf := fun c => (t_Club_hit_30 (am_ift e (am_bn c)) q))
theorem t_Club_hit_24 {d : Nat} {x1 : Int32} {x2 : Int32} {y1 : Int32} {h : am_H} {Q : am_Q} {res : Int32 × am_H} (e : f_Club_hit_24 h x1 x2 y1 = some res) (q : Q (some (.int res.1)) res.2) : am_W (X_Club_hit (d + 5)) 24 [some (.ref 0), some (.int x1), some (.int x2)] [.int y1, .ref 1] h Q :=
  (am_bd e).elim fun p hp => b_Club_hit_24 (d := (d + 4)) (k := c_Hole_isGreen (d := d + 3) hp.1 (t_Club_hit_27 hp.2 q))
theorem t_Club_hit_13 {d : Nat} {x1 : Int32} {x2 : Int32} {h : am_H} {Q : am_Q} {res : Int32 × am_H} (e : f_Club_hit_13 h x1 x2 = some res) (q : Q (some (.int res.1)) res.2) : am_W (X_Club_hit (d + 5)) 13 [some (.ref 0), some (.int x1), some (.int x2)] [] h Q :=
  b_Club_hit_13 (d := (d + 4)) (k := c_Deed_place (d := d + 4) rfl (t_Club_hit_24 e q))
theorem t_Club_hit_11 {d : Nat} {x1 : Int32} {x2 : Int32} {h : am_H} {Q : am_Q} {res : Int32 × am_H} (e : f_Club_hit_11 h = some res) (q : Q (some (.int res.1)) res.2) : am_W (X_Club_hit (d + 5)) 11 [some (.ref 0), some (.int x1), some (.int x2)] [] h Q :=
  b_Club_hit_11 (d := (d + 5)) (q := (am_rIpi (v := (-1)) e q))
theorem t_Club_hit_8 {d : Nat} {x1 : Int32} {x2 : Int32} {y0 : Bool} {h : am_H} {Q : am_Q} {res : Int32 × am_H} (e : f_Club_hit_8 h x1 x2 y0 = some res) (q : Q (some (.int res.1)) res.2) : am_W (X_Club_hit (d + 5)) 8 [some (.ref 0), some (.int x1), some (.int x2)] [.int (am_b y0)] h Q :=
  b_Club_hit_8 (d := (d + 5)) (kt := fun c => (t_Club_hit_13 (am_ift e (am_bn c)) q)) (kf := fun c => (t_Club_hit_11 (am_iff e (am_bz c)) q))
theorem t_Club_hit_0 {d : Nat} {x1 : Int32} {x2 : Int32} {h : am_H} {Q : am_Q} {res : Int32 × am_H} (e : f_Club_hit h x1 x2 = some res) (q : Q (some (.int res.1)) res.2) : am_W (X_Club_hit (d + 5)) 0 [some (.ref 0), some (.int x1), some (.int x2)] [] h Q :=
  b_Club_hit_0 (d := (d + 4)) (k := c_Hole_hasClub (d := d + 4) rfl (t_Club_hit_8 e q))
theorem c_Club_hit {d : Nat} {x1 : Int32} {x2 : Int32} {h : am_H} {Q : am_Q} {res : Int32 × am_H} (e : f_Club_hit h x1 x2 = some res) (q : Q (some (.int res.1)) res.2) : m_Club_hit (d + 5) [.ref 0, .int x1, .int x2] h Q :=
  e_Club_hit (t_Club_hit_0 e q)
theorem d_Deed_playPutts_0 : decode prog_3_method_5_code 0 = .ok (.aload_n 0, 1) := by decide +kernel
theorem d_Deed_playPutts_1 : decode prog_3_method_5_code 1 = .ok (.getfield 26, 3) := by decide +kernel
theorem d_Deed_playPutts_4 : decode prog_3_method_5_code 4 = .ok (.iload_n 1, 1) := by decide +kernel
theorem d_Deed_playPutts_5 : decode prog_3_method_5_code 5 = .ok (.invokevirtual 30, 3) := by decide +kernel
theorem d_Deed_playPutts_8 : decode prog_3_method_5_code 8 = .ok (.aload_n 0, 1) := by decide +kernel
theorem d_Deed_playPutts_9 : decode prog_3_method_5_code 9 = .ok (.getfield 26, 3) := by decide +kernel
theorem d_Deed_playPutts_12 : decode prog_3_method_5_code 12 = .ok (.aload_n 0, 1) := by decide +kernel
theorem d_Deed_playPutts_13 : decode prog_3_method_5_code 13 = .ok (.getfield 11, 3) := by decide +kernel
theorem d_Deed_playPutts_16 : decode prog_3_method_5_code 16 = .ok (.iconst 5, 1) := by decide +kernel
theorem d_Deed_playPutts_17 : decode prog_3_method_5_code 17 = .ok (.iaload, 1) := by decide +kernel
theorem d_Deed_playPutts_18 : decode prog_3_method_5_code 18 = .ok (.invokevirtual 46, 3) := by decide +kernel
theorem d_Deed_playPutts_21 : decode prog_3_method_5_code 21 = .ok (.istore_n 2, 1) := by decide +kernel
theorem d_Deed_playPutts_22 : decode prog_3_method_5_code 22 = .ok (.aload_n 0, 1) := by decide +kernel
theorem d_Deed_playPutts_23 : decode prog_3_method_5_code 23 = .ok (.getfield 11, 3) := by decide +kernel
theorem d_Deed_playPutts_26 : decode prog_3_method_5_code 26 = .ok (.iconst 0, 1) := by decide +kernel
theorem d_Deed_playPutts_27 : decode prog_3_method_5_code 27 = .ok (.iaload, 1) := by decide +kernel
theorem d_Deed_playPutts_28 : decode prog_3_method_5_code 28 = .ok (.iload_n 2, 1) := by decide +kernel
theorem d_Deed_playPutts_29 : decode prog_3_method_5_code 29 = .ok (.iadd, 1) := by decide +kernel
theorem d_Deed_playPutts_30 : decode prog_3_method_5_code 30 = .ok (.istore_n 3, 1) := by decide +kernel
theorem d_Deed_playPutts_31 : decode prog_3_method_5_code 31 = .ok (.aload_n 0, 1) := by decide +kernel
theorem d_Deed_playPutts_32 : decode prog_3_method_5_code 32 = .ok (.getfield 11, 3) := by decide +kernel
theorem d_Deed_playPutts_35 : decode prog_3_method_5_code 35 = .ok (.iconst 1, 1) := by decide +kernel
theorem d_Deed_playPutts_36 : decode prog_3_method_5_code 36 = .ok (.dup2, 1) := by decide +kernel
theorem d_Deed_playPutts_37 : decode prog_3_method_5_code 37 = .ok (.iaload, 1) := by decide +kernel
theorem d_Deed_playPutts_38 : decode prog_3_method_5_code 38 = .ok (.iconst 1, 1) := by decide +kernel
theorem d_Deed_playPutts_39 : decode prog_3_method_5_code 39 = .ok (.iadd, 1) := by decide +kernel
theorem d_Deed_playPutts_40 : decode prog_3_method_5_code 40 = .ok (.iastore, 1) := by decide +kernel
theorem d_Deed_playPutts_41 : decode prog_3_method_5_code 41 = .ok (.aload_n 0, 1) := by decide +kernel
theorem d_Deed_playPutts_42 : decode prog_3_method_5_code 42 = .ok (.getfield 11, 3) := by decide +kernel
theorem d_Deed_playPutts_45 : decode prog_3_method_5_code 45 = .ok (.iconst 2, 1) := by decide +kernel
theorem d_Deed_playPutts_46 : decode prog_3_method_5_code 46 = .ok (.dup2, 1) := by decide +kernel
theorem d_Deed_playPutts_47 : decode prog_3_method_5_code 47 = .ok (.iaload, 1) := by decide +kernel
theorem d_Deed_playPutts_48 : decode prog_3_method_5_code 48 = .ok (.iload_n 3, 1) := by decide +kernel
theorem d_Deed_playPutts_49 : decode prog_3_method_5_code 49 = .ok (.iadd, 1) := by decide +kernel
theorem d_Deed_playPutts_50 : decode prog_3_method_5_code 50 = .ok (.iastore, 1) := by decide +kernel
theorem d_Deed_playPutts_51 : decode prog_3_method_5_code 51 = .ok (.aload_n 0, 1) := by decide +kernel
theorem d_Deed_playPutts_52 : decode prog_3_method_5_code 52 = .ok (.getfield 11, 3) := by decide +kernel
theorem d_Deed_playPutts_55 : decode prog_3_method_5_code 55 = .ok (.iconst 4, 1) := by decide +kernel
theorem d_Deed_playPutts_56 : decode prog_3_method_5_code 56 = .ok (.iaload, 1) := by decide +kernel
theorem d_Deed_playPutts_57 : decode prog_3_method_5_code 57 = .ok (.ifCond .eq 13, 3) := by decide +kernel
theorem d_Deed_playPutts_60 : decode prog_3_method_5_code 60 = .ok (.iload_n 3, 1) := by decide +kernel
theorem d_Deed_playPutts_61 : decode prog_3_method_5_code 61 = .ok (.aload_n 0, 1) := by decide +kernel
theorem d_Deed_playPutts_62 : decode prog_3_method_5_code 62 = .ok (.getfield 11, 3) := by decide +kernel
theorem d_Deed_playPutts_65 : decode prog_3_method_5_code 65 = .ok (.iconst 4, 1) := by decide +kernel
theorem d_Deed_playPutts_66 : decode prog_3_method_5_code 66 = .ok (.iaload, 1) := by decide +kernel
theorem d_Deed_playPutts_67 : decode prog_3_method_5_code 67 = .ok (.if_icmp .ge 10, 3) := by decide +kernel
theorem d_Deed_playPutts_70 : decode prog_3_method_5_code 70 = .ok (.aload_n 0, 1) := by decide +kernel
theorem d_Deed_playPutts_71 : decode prog_3_method_5_code 71 = .ok (.getfield 11, 3) := by decide +kernel
theorem d_Deed_playPutts_74 : decode prog_3_method_5_code 74 = .ok (.iconst 4, 1) := by decide +kernel
theorem d_Deed_playPutts_75 : decode prog_3_method_5_code 75 = .ok (.iload_n 3, 1) := by decide +kernel
theorem d_Deed_playPutts_76 : decode prog_3_method_5_code 76 = .ok (.iastore, 1) := by decide +kernel
theorem d_Deed_playPutts_77 : decode prog_3_method_5_code 77 = .ok (.aload_n 0, 1) := by decide +kernel
theorem d_Deed_playPutts_78 : decode prog_3_method_5_code 78 = .ok (.getfield 11, 3) := by decide +kernel
theorem d_Deed_playPutts_81 : decode prog_3_method_5_code 81 = .ok (.iconst 0, 1) := by decide +kernel
theorem d_Deed_playPutts_82 : decode prog_3_method_5_code 82 = .ok (.iconst 0, 1) := by decide +kernel
theorem d_Deed_playPutts_83 : decode prog_3_method_5_code 83 = .ok (.iastore, 1) := by decide +kernel
theorem d_Deed_playPutts_84 : decode prog_3_method_5_code 84 = .ok (.aload_n 0, 1) := by decide +kernel
theorem d_Deed_playPutts_85 : decode prog_3_method_5_code 85 = .ok (.getfield 11, 3) := by decide +kernel
theorem d_Deed_playPutts_88 : decode prog_3_method_5_code 88 = .ok (.iconst 5, 1) := by decide +kernel
theorem d_Deed_playPutts_89 : decode prog_3_method_5_code 89 = .ok (.iconst 0, 1) := by decide +kernel
theorem d_Deed_playPutts_90 : decode prog_3_method_5_code 90 = .ok (.iastore, 1) := by decide +kernel
theorem d_Deed_playPutts_91 : decode prog_3_method_5_code 91 = .ok (.iload_n 2, 1) := by decide +kernel
theorem d_Deed_playPutts_92 : decode prog_3_method_5_code 92 = .ok (.ireturn, 1) := by decide +kernel
theorem b_Deed_playPutts_0 {d : Nat} {x1 : Int32} {h : am_H} {Q : am_Q} (k : m_Draws_begin d [.ref 18, .int x1] h (fun r hh => am_W (X_Deed_playPutts (d + 1)) 8 [some (.ref 19), some (.int x1), none, none] (r.toList ++ []) hh Q)) : am_W (X_Deed_playPutts (d + 1)) 0 [some (.ref 19), some (.int x1), none, none] [] h Q :=
  am_aload_n d_Deed_playPutts_0 rfl (i := 0) rfl <|
    am_getR (ci := 6) (i := 1) rfl rfl rfl (Nat.le_of_ble_eq_true rfl) w_283 d_Deed_playPutts_1 <|
    am_iload_n d_Deed_playPutts_4 rfl (i := 1) rfl <|
    am_callV (vs := [.int x1]) (st := []) (k := 18) (ci := 5) rfl d_Deed_playPutts_5 rfl rfl w_1059 w_1006 w_1007 w_89 w_1008 p_Draws_begin (Nat.le_of_ble_eq_true rfl) (Nat.le_of_ble_eq_true rfl) rfl k
theorem b_Deed_playPutts_8 {d : Nat} {x1 : Int32} {h : am_H} {Q : am_Q} (k : m_Draws_puttsFrom d [.ref 18, .int (h.1 20 (5 : Int32).toNatClampNeg)] h (fun r hh => am_W (X_Deed_playPutts (d + 1)) 21 [some (.ref 19), some (.int x1), none, none] (r.toList ++ []) hh Q)) : am_W (X_Deed_playPutts (d + 1)) 8 [some (.ref 19), some (.int x1), none, none] [] h Q :=
  am_aload_n d_Deed_playPutts_8 rfl (i := 0) rfl <|
    am_getR (ci := 6) (i := 1) rfl rfl rfl (Nat.le_of_ble_eq_true rfl) w_283 d_Deed_playPutts_9 <|
    am_aload_n d_Deed_playPutts_12 rfl (i := 0) rfl <|
    am_getR (ci := 6) (i := 2) rfl rfl rfl (Nat.le_of_ble_eq_true rfl) w_284 d_Deed_playPutts_13 <|
    am_iconst (v := 5) d_Deed_playPutts_16 (by decide) <|
    am_iald rfl (am_vin (by decide)) d_Deed_playPutts_17 <|
    am_callV (vs := [.int (h.1 20 (5 : Int32).toNatClampNeg)]) (st := []) (k := 18) (ci := 5) rfl d_Deed_playPutts_18 rfl rfl w_1070 w_1032 w_1033 w_89 w_1034 p_Draws_puttsFrom (Nat.le_of_ble_eq_true rfl) (Nat.le_of_ble_eq_true rfl) rfl k
theorem b_Deed_playPutts_21 {d : Nat} {x1 : Int32} {y0 : Int32} {h : am_H} {Q : am_Q} (kt : ((am_pI (am_pI h 20 (1 : Int32).toNatClampNeg ((h.1 20 (1 : Int32).toNatClampNeg) + 1)) 20 (2 : Int32).toNatClampNeg (((am_pI h 20 (1 : Int32).toNatClampNeg ((h.1 20 (1 : Int32).toNatClampNeg) + 1)).1 20 (2 : Int32).toNatClampNeg) + ((h.1 20 (0 : Int32).toNatClampNeg) + y0))).1 20 (4 : Int32).toNatClampNeg) = 0 → am_W (X_Deed_playPutts d) 70 [some (.ref 19), some (.int x1), some (.int y0), some (.int ((h.1 20 (0 : Int32).toNatClampNeg) + y0))] [] (am_pI (am_pI h 20 (1 : Int32).toNatClampNeg ((h.1 20 (1 : Int32).toNatClampNeg) + 1)) 20 (2 : Int32).toNatClampNeg (((am_pI h 20 (1 : Int32).toNatClampNeg ((h.1 20 (1 : Int32).toNatClampNeg) + 1)).1 20 (2 : Int32).toNatClampNeg) + ((h.1 20 (0 : Int32).toNatClampNeg) + y0))) Q) (kf : ¬ ((am_pI (am_pI h 20 (1 : Int32).toNatClampNeg ((h.1 20 (1 : Int32).toNatClampNeg) + 1)) 20 (2 : Int32).toNatClampNeg (((am_pI h 20 (1 : Int32).toNatClampNeg ((h.1 20 (1 : Int32).toNatClampNeg) + 1)).1 20 (2 : Int32).toNatClampNeg) + ((h.1 20 (0 : Int32).toNatClampNeg) + y0))).1 20 (4 : Int32).toNatClampNeg) = 0 → am_W (X_Deed_playPutts d) 60 [some (.ref 19), some (.int x1), some (.int y0), some (.int ((h.1 20 (0 : Int32).toNatClampNeg) + y0))] [] (am_pI (am_pI h 20 (1 : Int32).toNatClampNeg ((h.1 20 (1 : Int32).toNatClampNeg) + 1)) 20 (2 : Int32).toNatClampNeg (((am_pI h 20 (1 : Int32).toNatClampNeg ((h.1 20 (1 : Int32).toNatClampNeg) + 1)).1 20 (2 : Int32).toNatClampNeg) + ((h.1 20 (0 : Int32).toNatClampNeg) + y0))) Q) : am_W (X_Deed_playPutts d) 21 [some (.ref 19), some (.int x1), none, none] [.int y0] h Q :=
  am_istore_n (ls' := [some (.ref 19), some (.int x1), some (.int y0), none]) d_Deed_playPutts_21 rfl (Nat.le_of_ble_eq_true rfl) rfl <|
    am_aload_n d_Deed_playPutts_22 rfl (i := 0) rfl <|
    am_getR (ci := 6) (i := 2) rfl rfl rfl (Nat.le_of_ble_eq_true rfl) w_284 d_Deed_playPutts_23 <|
    am_iconst (v := 0) d_Deed_playPutts_26 (by decide) <|
    am_iald rfl (am_vin (by decide)) d_Deed_playPutts_27 <|
    am_iload_n d_Deed_playPutts_28 rfl (i := 2) rfl <|
    am_iadd d_Deed_playPutts_29 <|
    am_istore_n (ls' := [some (.ref 19), some (.int x1), some (.int y0), some (.int ((h.1 20 (0 : Int32).toNatClampNeg) + y0))]) d_Deed_playPutts_30 rfl (Nat.le_of_ble_eq_true rfl) rfl <|
    am_aload_n d_Deed_playPutts_31 rfl (i := 0) rfl <|
    am_getR (ci := 6) (i := 2) rfl rfl rfl (Nat.le_of_ble_eq_true rfl) w_284 d_Deed_playPutts_32 <|
    am_iconst (v := 1) d_Deed_playPutts_35 (by decide) <|
    am_dup2RI d_Deed_playPutts_36 <|
    am_iald rfl (am_vin (by decide)) d_Deed_playPutts_37 <|
    am_iconst (v := 1) d_Deed_playPutts_38 (by decide) <|
    am_iadd d_Deed_playPutts_39 <|
    am_iast rfl (am_vin (by decide)) d_Deed_playPutts_40 <|
    am_aload_n d_Deed_playPutts_41 rfl (i := 0) rfl <|
    am_getR (ci := 6) (i := 2) rfl rfl rfl (Nat.le_of_ble_eq_true rfl) w_284 d_Deed_playPutts_42 <|
    am_iconst (v := 2) d_Deed_playPutts_45 (by decide) <|
    am_dup2RI d_Deed_playPutts_46 <|
    am_iald rfl (am_vin (by decide)) d_Deed_playPutts_47 <|
    am_iload_n d_Deed_playPutts_48 rfl (i := 3) rfl <|
    am_iadd d_Deed_playPutts_49 <|
    am_iast rfl (am_vin (by decide)) d_Deed_playPutts_50 <|
    am_aload_n d_Deed_playPutts_51 rfl (i := 0) rfl <|
    am_getR (ci := 6) (i := 2) rfl rfl rfl (Nat.le_of_ble_eq_true rfl) w_284 d_Deed_playPutts_52 <|
    am_iconst (v := 4) d_Deed_playPutts_55 (by decide) <|
    am_iald rfl (am_vin (by decide)) d_Deed_playPutts_56 <|
    am_if_eq (tgt := 70) d_Deed_playPutts_57 (by decide) kt kf
theorem b_Deed_playPutts_60 {d : Nat} {x1 : Int32} {x2 : Int32} {x3 : Int32} {h : am_H} {Q : am_Q} (kt : (h.1 20 (4 : Int32).toNatClampNeg) ≤ x3 → am_W (X_Deed_playPutts d) 77 [some (.ref 19), some (.int x1), some (.int x2), some (.int x3)] [] h Q) (kf : ¬ (h.1 20 (4 : Int32).toNatClampNeg) ≤ x3 → am_W (X_Deed_playPutts d) 70 [some (.ref 19), some (.int x1), some (.int x2), some (.int x3)] [] h Q) : am_W (X_Deed_playPutts d) 60 [some (.ref 19), some (.int x1), some (.int x2), some (.int x3)] [] h Q :=
  am_iload_n d_Deed_playPutts_60 rfl (i := 3) rfl <|
    am_aload_n d_Deed_playPutts_61 rfl (i := 0) rfl <|
    am_getR (ci := 6) (i := 2) rfl rfl rfl (Nat.le_of_ble_eq_true rfl) w_284 d_Deed_playPutts_62 <|
    am_iconst (v := 4) d_Deed_playPutts_65 (by decide) <|
    am_iald rfl (am_vin (by decide)) d_Deed_playPutts_66 <|
    am_icmp_ge (tgt := 77) d_Deed_playPutts_67 (by decide) kt kf
theorem b_Deed_playPutts_70 {d : Nat} {x1 : Int32} {x2 : Int32} {x3 : Int32} {h : am_H} {Q : am_Q} (k : am_W (X_Deed_playPutts d) 77 [some (.ref 19), some (.int x1), some (.int x2), some (.int x3)] [] (am_pI h 20 (4 : Int32).toNatClampNeg x3) Q) : am_W (X_Deed_playPutts d) 70 [some (.ref 19), some (.int x1), some (.int x2), some (.int x3)] [] h Q :=
  am_aload_n d_Deed_playPutts_70 rfl (i := 0) rfl <|
    am_getR (ci := 6) (i := 2) rfl rfl rfl (Nat.le_of_ble_eq_true rfl) w_284 d_Deed_playPutts_71 <|
    am_iconst (v := 4) d_Deed_playPutts_74 (by decide) <|
    am_iload_n d_Deed_playPutts_75 rfl (i := 3) rfl <|
    am_iast rfl (am_vin (by decide)) d_Deed_playPutts_76 <|
    k
theorem b_Deed_playPutts_77 {d : Nat} {x1 : Int32} {x2 : Int32} {x3 : Int32} {h : am_H} {Q : am_Q} (q : Q (some (.int x2)) (am_pI (am_pI h 20 (0 : Int32).toNatClampNeg 0) 20 (5 : Int32).toNatClampNeg 0)) : am_W (X_Deed_playPutts d) 77 [some (.ref 19), some (.int x1), some (.int x2), some (.int x3)] [] h Q :=
  am_aload_n d_Deed_playPutts_77 rfl (i := 0) rfl <|
    am_getR (ci := 6) (i := 2) rfl rfl rfl (Nat.le_of_ble_eq_true rfl) w_284 d_Deed_playPutts_78 <|
    am_iconst (v := 0) d_Deed_playPutts_81 (by decide) <|
    am_iconst (v := 0) d_Deed_playPutts_82 (by decide) <|
    am_iast rfl (am_vin (by decide)) d_Deed_playPutts_83 <|
    am_aload_n d_Deed_playPutts_84 rfl (i := 0) rfl <|
    am_getR (ci := 6) (i := 2) rfl rfl rfl (Nat.le_of_ble_eq_true rfl) w_284 d_Deed_playPutts_85 <|
    am_iconst (v := 5) d_Deed_playPutts_88 (by decide) <|
    am_iconst (v := 0) d_Deed_playPutts_89 (by decide) <|
    am_iast rfl (am_vin (by decide)) d_Deed_playPutts_90 <|
    am_iload_n d_Deed_playPutts_91 rfl (i := 2) rfl <|
    am_iret rfl d_Deed_playPutts_92 q
theorem t_Deed_playPutts_77 {d : Nat} {x1 : Int32} {x2 : Int32} {x3 : Int32} {h : am_H} {Q : am_Q} {res : Int32 × am_H} (e : f_Deed_playPutts_77 h x2 = some res) (q : Q (some (.int res.1)) res.2) : am_W (X_Deed_playPutts (d + 2)) 77 [some (.ref 19), some (.int x1), some (.int x2), some (.int x3)] [] h Q :=
  b_Deed_playPutts_77 (d := (d + 2)) (q := (am_rIpi (v := x2) e q))
theorem t_Deed_playPutts_70 {d : Nat} {x1 : Int32} {x2 : Int32} {x3 : Int32} {h : am_H} {Q : am_Q} {res : Int32 × am_H} (e : f_Deed_playPutts_70 h x2 x3 = some res) (q : Q (some (.int res.1)) res.2) : am_W (X_Deed_playPutts (d + 2)) 70 [some (.ref 19), some (.int x1), some (.int x2), some (.int x3)] [] h Q :=
  b_Deed_playPutts_70 (d := (d + 2)) (k := (t_Deed_playPutts_77 e q))
theorem t_Deed_playPutts_60 {d : Nat} {x1 : Int32} {x2 : Int32} {x3 : Int32} {h : am_H} {Q : am_Q} {res : Int32 × am_H} (e : f_Deed_playPutts_60 h x2 x3 = some res) (q : Q (some (.int res.1)) res.2) : am_W (X_Deed_playPutts (d + 2)) 60 [some (.ref 19), some (.int x1), some (.int x2), some (.int x3)] [] h Q :=
  b_Deed_playPutts_60 (d := (d + 2)) (kt := fun c => (t_Deed_playPutts_77 (am_ift e c) q)) (kf := fun c => (t_Deed_playPutts_70 (am_ife e c) q))
theorem t_Deed_playPutts_21 {d : Nat} {x1 : Int32} {y0 : Int32} {h : am_H} {Q : am_Q} {res : Int32 × am_H} (e : f_Deed_playPutts_21 h y0 = some res) (q : Q (some (.int res.1)) res.2) : am_W (X_Deed_playPutts (d + 2)) 21 [some (.ref 19), some (.int x1), none, none] [.int y0] h Q :=
  b_Deed_playPutts_21 (d := (d + 2)) (kt := fun c => (t_Deed_playPutts_70 (am_ift e c) q)) (kf := fun c => (t_Deed_playPutts_60 (am_ife e c) q))
theorem t_Deed_playPutts_8 {d : Nat} {x1 : Int32} {h : am_H} {Q : am_Q} {res : Int32 × am_H} (e : f_Deed_playPutts_8 h = some res) (q : Q (some (.int res.1)) res.2) : am_W (X_Deed_playPutts (d + 2)) 8 [some (.ref 19), some (.int x1), none, none] [] h Q :=
  (am_bd e).elim fun p hp => b_Deed_playPutts_8 (d := (d + 1)) (k := c_Draws_puttsFrom (d := d) hp.1 (t_Deed_playPutts_21 hp.2 q))
theorem t_Deed_playPutts_0 {d : Nat} {x1 : Int32} {h : am_H} {Q : am_Q} {res : Int32 × am_H} (e : f_Deed_playPutts h x1 = some res) (q : Q (some (.int res.1)) res.2) : am_W (X_Deed_playPutts (d + 2)) 0 [some (.ref 19), some (.int x1), none, none] [] h Q :=
  b_Deed_playPutts_0 (d := (d + 1)) (k := c_Draws_begin (d := d + 1) rfl (t_Deed_playPutts_8 e q))
theorem c_Deed_playPutts {d : Nat} {x1 : Int32} {h : am_H} {Q : am_Q} {res : Int32 × am_H} (e : f_Deed_playPutts h x1 = some res) (q : Q (some (.int res.1)) res.2) : m_Deed_playPutts (d + 2) [.ref 19, .int x1] h Q :=
  e_Deed_playPutts (t_Deed_playPutts_0 e q)
theorem d_Club_putt_0 : decode prog_1_method_26_code 0 = .ok (.aload_n 0, 1) := by decide +kernel
theorem d_Club_putt_1 : decode prog_1_method_26_code 1 = .ok (.getfield 12, 3) := by decide +kernel
theorem d_Club_putt_4 : decode prog_1_method_26_code 4 = .ok (.aload_n 0, 1) := by decide +kernel
theorem d_Club_putt_5 : decode prog_1_method_26_code 5 = .ok (.getfield 55, 3) := by decide +kernel
theorem d_Club_putt_8 : decode prog_1_method_26_code 8 = .ok (.invokevirtual 129, 3) := by decide +kernel
theorem d_Club_putt_11 : decode prog_1_method_26_code 11 = .ok (.invokevirtual 178, 3) := by decide +kernel
theorem d_Club_putt_14 : decode prog_1_method_26_code 14 = .ok (.ifCond .eq 14, 3) := by decide +kernel
theorem d_Club_putt_17 : decode prog_1_method_26_code 17 = .ok (.aload_n 0, 1) := by decide +kernel
theorem d_Club_putt_18 : decode prog_1_method_26_code 18 = .ok (.getfield 55, 3) := by decide +kernel
theorem d_Club_putt_21 : decode prog_1_method_26_code 21 = .ok (.iload_n 1, 1) := by decide +kernel
theorem d_Club_putt_22 : decode prog_1_method_26_code 22 = .ok (.invokevirtual 275, 3) := by decide +kernel
theorem d_Club_putt_25 : decode prog_1_method_26_code 25 = .ok (.goto 5, 3) := by decide +kernel
theorem d_Club_putt_28 : decode prog_1_method_26_code 28 = .ok (.bipush (-5), 2) := by decide +kernel
theorem d_Club_putt_30 : decode prog_1_method_26_code 30 = .ok (.ireturn, 1) := by decide +kernel
theorem b_Club_putt_0 {d : Nat} {x1 : Int32} {h : am_H} {Q : am_Q} (k : m_Deed_place d [.ref 19] h (fun r hh => am_W (X_Club_putt (d + 1)) 11 [some (.ref 0), some (.int x1)] (r.toList ++ [.ref 1]) hh Q)) : am_W (X_Club_putt (d + 1)) 0 [some (.ref 0), some (.int x1)] [] h Q :=
  am_aload_n d_Club_putt_0 rfl (i := 0) rfl <|
    am_getR (ci := 0) (i := 0) rfl rfl rfl (Nat.le_of_ble_eq_true rfl) w_362 d_Club_putt_1 <|
    am_aload_n d_Club_putt_4 rfl (i := 0) rfl <|
    am_getR (ci := 0) (i := 5) rfl rfl rfl (Nat.le_of_ble_eq_true rfl) w_367 d_Club_putt_5 <|
    am_callV (vs := []) (st := [.ref 1]) (k := 19) (ci := 6) rfl d_Club_putt_8 rfl rfl w_509 w_510 w_511 w_90 w_512 p_Deed_place (Nat.le_of_ble_eq_true rfl) (Nat.le_of_ble_eq_true rfl) rfl k
theorem b_Club_putt_11 {d : Nat} {x1 : Int32} {y1 : Int32} {h : am_H} {Q : am_Q} (k : m_Hole_isGreen d [.ref 1, .int y1] h (fun r hh => am_W (X_Club_putt (d + 1)) 14 [some (.ref 0), some (.int x1)] (r.toList ++ []) hh Q)) : am_W (X_Club_putt (d + 1)) 11 [some (.ref 0), some (.int x1)] [.int y1, .ref 1] h Q :=
  am_callV (vs := [.int y1]) (st := []) (k := 1) (ci := 1) rfl d_Club_putt_11 rfl rfl w_734 w_675 w_676 w_84 w_677 p_Hole_isGreen (Nat.le_of_ble_eq_true rfl) (Nat.le_of_ble_eq_true rfl) rfl k
theorem b_Club_putt_14 {d : Nat} {x1 : Int32} {y0 : Bool} {h : am_H} {Q : am_Q} (kt : (am_b y0) = 0 → am_W (X_Club_putt d) 28 [some (.ref 0), some (.int x1)] [] h Q) (kf : ¬ (am_b y0) = 0 → am_W (X_Club_putt d) 17 [some (.ref 0), some (.int x1)] [] h Q) : am_W (X_Club_putt d) 14 [some (.ref 0), some (.int x1)] [.int (am_b y0)] h Q :=
  am_if_eq (tgt := 28) d_Club_putt_14 (by decide) kt kf
theorem b_Club_putt_17 {d : Nat} {x1 : Int32} {h : am_H} {Q : am_Q} (k : m_Deed_playPutts d [.ref 19, .int x1] h (fun r hh => am_W (X_Club_putt (d + 1)) 25 [some (.ref 0), some (.int x1)] (r.toList ++ []) hh Q)) : am_W (X_Club_putt (d + 1)) 17 [some (.ref 0), some (.int x1)] [] h Q :=
  am_aload_n d_Club_putt_17 rfl (i := 0) rfl <|
    am_getR (ci := 0) (i := 5) rfl rfl rfl (Nat.le_of_ble_eq_true rfl) w_367 d_Club_putt_18 <|
    am_iload_n d_Club_putt_21 rfl (i := 1) rfl <|
    am_callV (vs := [.int x1]) (st := []) (k := 19) (ci := 6) rfl d_Club_putt_22 rfl rfl w_1066 w_1067 w_1068 w_90 w_1069 p_Deed_playPutts (Nat.le_of_ble_eq_true rfl) (Nat.le_of_ble_eq_true rfl) rfl k
theorem b_Club_putt_25 {d : Nat} {x1 : Int32} {y0 : Int32} {h : am_H} {Q : am_Q} (q : Q (some (.int y0)) h) : am_W (X_Club_putt d) 25 [some (.ref 0), some (.int x1)] [.int y0] h Q :=
  am_goto (tgt := 30) d_Club_putt_25 (by decide) <|
    am_iret rfl d_Club_putt_30 q
theorem b_Club_putt_28 {d : Nat} {x1 : Int32} {h : am_H} {Q : am_Q} (q : Q (some (.int (-5))) h) : am_W (X_Club_putt d) 28 [some (.ref 0), some (.int x1)] [] h Q :=
  am_bipush (v := (-5)) d_Club_putt_28 (by decide) <|
    am_iret rfl d_Club_putt_30 q
theorem t_Club_putt_28 {d : Nat} {x1 : Int32} {h : am_H} {Q : am_Q} {res : Int32 × am_H} (e : f_Club_putt_28 h = some res) (q : Q (some (.int res.1)) res.2) : am_W (X_Club_putt (d + 3)) 28 [some (.ref 0), some (.int x1)] [] h Q :=
  b_Club_putt_28 (d := (d + 3)) (q := (am_rIpi (v := (-5)) e q))
theorem t_Club_putt_25 {d : Nat} {x1 : Int32} {y0 : Int32} {h : am_H} {Q : am_Q} {res : Int32 × am_H} (e : f_Club_putt_25 h y0 = some res) (q : Q (some (.int res.1)) res.2) : am_W (X_Club_putt (d + 3)) 25 [some (.ref 0), some (.int x1)] [.int y0] h Q :=
  b_Club_putt_25 (d := (d + 3)) (q := (am_rIpi (v := y0) e q))
theorem t_Club_putt_17 {d : Nat} {x1 : Int32} {h : am_H} {Q : am_Q} {res : Int32 × am_H} (e : f_Club_putt_17 h x1 = some res) (q : Q (some (.int res.1)) res.2) : am_W (X_Club_putt (d + 3)) 17 [some (.ref 0), some (.int x1)] [] h Q :=
  (am_bd e).elim fun p hp => b_Club_putt_17 (d := (d + 2)) (k := c_Deed_playPutts (d := d) hp.1 (t_Club_putt_25 hp.2 q))
theorem t_Club_putt_14 {d : Nat} {x1 : Int32} {y0 : Bool} {h : am_H} {Q : am_Q} {res : Int32 × am_H} (e : f_Club_putt_14 h x1 y0 = some res) (q : Q (some (.int res.1)) res.2) : am_W (X_Club_putt (d + 3)) 14 [some (.ref 0), some (.int x1)] [.int (am_b y0)] h Q :=
  b_Club_putt_14 (d := (d + 3)) (kt := fun c => (t_Club_putt_28 (am_iff e (am_bz c)) q)) (kf := fun c => (t_Club_putt_17 (am_ift e (am_bn c)) q))
theorem t_Club_putt_11 {d : Nat} {x1 : Int32} {y1 : Int32} {h : am_H} {Q : am_Q} {res : Int32 × am_H} (e : f_Club_putt_11 h x1 y1 = some res) (q : Q (some (.int res.1)) res.2) : am_W (X_Club_putt (d + 3)) 11 [some (.ref 0), some (.int x1)] [.int y1, .ref 1] h Q :=
  (am_bd e).elim fun p hp => b_Club_putt_11 (d := (d + 2)) (k := c_Hole_isGreen (d := d + 1) hp.1 (t_Club_putt_14 hp.2 q))
theorem t_Club_putt_0 {d : Nat} {x1 : Int32} {h : am_H} {Q : am_Q} {res : Int32 × am_H} (e : f_Club_putt h x1 = some res) (q : Q (some (.int res.1)) res.2) : am_W (X_Club_putt (d + 3)) 0 [some (.ref 0), some (.int x1)] [] h Q :=
  b_Club_putt_0 (d := (d + 2)) (k := c_Deed_place (d := d + 2) rfl (t_Club_putt_11 e q))
theorem c_Club_putt {d : Nat} {x1 : Int32} {h : am_H} {Q : am_Q} {res : Int32 × am_H} (e : f_Club_putt h x1 = some res) (q : Q (some (.int res.1)) res.2) : m_Club_putt (d + 3) [.ref 0, .int x1] h Q :=
  e_Club_putt (t_Club_putt_0 e q)
theorem d_Deed_tally_0 : decode prog_3_method_3_code 0 = .ok (.iload_n 1, 1) := by decide +kernel
theorem d_Deed_tally_1 : decode prog_3_method_3_code 1 = .ok (.ifCond .lt 18, 3) := by decide +kernel
theorem d_Deed_tally_4 : decode prog_3_method_3_code 4 = .ok (.iload_n 1, 1) := by decide +kernel
theorem d_Deed_tally_5 : decode prog_3_method_3_code 5 = .ok (.bipush 6, 2) := by decide +kernel
theorem d_Deed_tally_7 : decode prog_3_method_3_code 7 = .ok (.if_icmp .ge 12, 3) := by decide +kernel
theorem d_Deed_tally_10 : decode prog_3_method_3_code 10 = .ok (.aload_n 0, 1) := by decide +kernel
theorem d_Deed_tally_11 : decode prog_3_method_3_code 11 = .ok (.getfield 11, 3) := by decide +kernel
theorem d_Deed_tally_14 : decode prog_3_method_3_code 14 = .ok (.iload_n 1, 1) := by decide +kernel
theorem d_Deed_tally_15 : decode prog_3_method_3_code 15 = .ok (.iaload, 1) := by decide +kernel
theorem d_Deed_tally_16 : decode prog_3_method_3_code 16 = .ok (.goto 4, 3) := by decide +kernel
theorem d_Deed_tally_19 : decode prog_3_method_3_code 19 = .ok (.iconst (-1), 1) := by decide +kernel
theorem d_Deed_tally_20 : decode prog_3_method_3_code 20 = .ok (.ireturn, 1) := by decide +kernel
theorem b_Deed_tally_0 {d : Nat} {x1 : Int32} {h : am_H} {Q : am_Q} (kt : x1 < 0 → am_W (X_Deed_tally d) 19 [some (.ref 19), some (.int x1)] [] h Q) (kf : ¬ x1 < 0 → am_W (X_Deed_tally d) 4 [some (.ref 19), some (.int x1)] [] h Q) : am_W (X_Deed_tally d) 0 [some (.ref 19), some (.int x1)] [] h Q :=
  am_iload_n d_Deed_tally_0 rfl (i := 1) rfl <|
    am_if_lt (tgt := 19) d_Deed_tally_1 (by decide) kt kf
theorem b_Deed_tally_4 {d : Nat} {x1 : Int32} {h : am_H} {Q : am_Q} (kt : 6 ≤ x1 → am_W (X_Deed_tally d) 19 [some (.ref 19), some (.int x1)] [] h Q) (kf : ¬ 6 ≤ x1 → am_W (X_Deed_tally d) 10 [some (.ref 19), some (.int x1)] [] h Q) : am_W (X_Deed_tally d) 4 [some (.ref 19), some (.int x1)] [] h Q :=
  am_iload_n d_Deed_tally_4 rfl (i := 1) rfl <|
    am_bipush (v := 6) d_Deed_tally_5 (by decide) <|
    am_icmp_ge (tgt := 19) d_Deed_tally_7 (by decide) kt kf
theorem b_Deed_tally_10 {d : Nat} {x1 : Int32} {h : am_H} {Q : am_Q} (q0 : vp_in x1 6) (q : Q (some (.int (h.1 20 x1.toNatClampNeg))) h) : am_W (X_Deed_tally d) 10 [some (.ref 19), some (.int x1)] [] h Q :=
  am_aload_n d_Deed_tally_10 rfl (i := 0) rfl <|
    am_getR (ci := 6) (i := 2) rfl rfl rfl (Nat.le_of_ble_eq_true rfl) w_284 d_Deed_tally_11 <|
    am_iload_n d_Deed_tally_14 rfl (i := 1) rfl <|
    am_iald rfl q0 d_Deed_tally_15 <|
    am_goto (tgt := 20) d_Deed_tally_16 (by decide) <|
    am_iret rfl d_Deed_tally_20 q
theorem b_Deed_tally_19 {d : Nat} {x1 : Int32} {h : am_H} {Q : am_Q} (q : Q (some (.int (-1))) h) : am_W (X_Deed_tally d) 19 [some (.ref 19), some (.int x1)] [] h Q :=
  am_iconst (v := (-1)) d_Deed_tally_19 (by decide) <|
    am_iret rfl d_Deed_tally_20 q
theorem t_Deed_tally_19 {d : Nat} {x1 : Int32} {h : am_H} {Q : am_Q} {res : Int32} (e : f_Deed_tally_19 h = some res) (q : Q (some (.int res)) h) : am_W (X_Deed_tally d) 19 [some (.ref 19), some (.int x1)] [] h Q :=
  b_Deed_tally_19 (d := d) (q := (am_rIp (v := (-1)) e q))
theorem t_Deed_tally_10 {d : Nat} {x1 : Int32} {h : am_H} {Q : am_Q} {res : Int32} (e : f_Deed_tally_10 h x1 = some res) (q : Q (some (.int res)) h) : am_W (X_Deed_tally d) 10 [some (.ref 19), some (.int x1)] [] h Q :=
  b_Deed_tally_10 (d := d) (q0 := (am_okv (am_gd e))) (q := (am_rIp (v := (h.1 20 x1.toNatClampNeg)) (am_ga e) q))
theorem t_Deed_tally_4 {d : Nat} {x1 : Int32} {h : am_H} {Q : am_Q} {res : Int32} (e : f_Deed_tally_4 h x1 = some res) (q : Q (some (.int res)) h) : am_W (X_Deed_tally d) 4 [some (.ref 19), some (.int x1)] [] h Q :=
  b_Deed_tally_4 (d := d) (kt := fun c => (t_Deed_tally_19 (am_ift e c) q)) (kf := fun c => (t_Deed_tally_10 (am_ife e c) q))
theorem t_Deed_tally_0 {d : Nat} {x1 : Int32} {h : am_H} {Q : am_Q} {res : Int32} (e : f_Deed_tally h x1 = some res) (q : Q (some (.int res)) h) : am_W (X_Deed_tally d) 0 [some (.ref 19), some (.int x1)] [] h Q :=
  b_Deed_tally_0 (d := d) (kt := fun c => (t_Deed_tally_19 (am_ift e c) q)) (kf := fun c => (t_Deed_tally_4 (am_ife e c) q))
theorem c_Deed_tally {d : Nat} {x1 : Int32} {h : am_H} {Q : am_Q} {res : Int32} (e : f_Deed_tally h x1 = some res) (q : Q (some (.int res)) h) : m_Deed_tally d [.ref 19, .int x1] h Q :=
  e_Deed_tally (t_Deed_tally_0 e q)
theorem d_Club_led_0 : decode prog_1_method_27_code 0 = .ok (.iload_n 1, 1) := by decide +kernel
theorem d_Club_led_1 : decode prog_1_method_27_code 1 = .ok (.ifCond .lt 8, 3) := by decide +kernel
theorem d_Club_led_4 : decode prog_1_method_27_code 4 = .ok (.iload_n 1, 1) := by decide +kernel
theorem d_Club_led_5 : decode prog_1_method_27_code 5 = .ok (.iconst 4, 1) := by decide +kernel
theorem d_Club_led_6 : decode prog_1_method_27_code 6 = .ok (.if_icmp .le 7, 3) := by decide +kernel
theorem d_Club_led_9 : decode prog_1_method_27_code 9 = .ok (.iconst (-1), 1) := by decide +kernel
theorem d_Club_led_10 : decode prog_1_method_27_code 10 = .ok (.goto 11, 3) := by decide +kernel
theorem d_Club_led_13 : decode prog_1_method_27_code 13 = .ok (.aload_n 0, 1) := by decide +kernel
theorem d_Club_led_14 : decode prog_1_method_27_code 14 = .ok (.getfield 55, 3) := by decide +kernel
theorem d_Club_led_17 : decode prog_1_method_27_code 17 = .ok (.iload_n 1, 1) := by decide +kernel
theorem d_Club_led_18 : decode prog_1_method_27_code 18 = .ok (.invokevirtual 278, 3) := by decide +kernel
theorem d_Club_led_21 : decode prog_1_method_27_code 21 = .ok (.ireturn, 1) := by decide +kernel
theorem b_Club_led_0 {d : Nat} {x1 : Int32} {h : am_H} {Q : am_Q} (kt : x1 < 0 → am_W (X_Club_led d) 9 [some (.ref 0), some (.int x1)] [] h Q) (kf : ¬ x1 < 0 → am_W (X_Club_led d) 4 [some (.ref 0), some (.int x1)] [] h Q) : am_W (X_Club_led d) 0 [some (.ref 0), some (.int x1)] [] h Q :=
  am_iload_n d_Club_led_0 rfl (i := 1) rfl <|
    am_if_lt (tgt := 9) d_Club_led_1 (by decide) kt kf
theorem b_Club_led_4 {d : Nat} {x1 : Int32} {h : am_H} {Q : am_Q} (kt : x1 ≤ 4 → am_W (X_Club_led d) 13 [some (.ref 0), some (.int x1)] [] h Q) (kf : ¬ x1 ≤ 4 → am_W (X_Club_led d) 9 [some (.ref 0), some (.int x1)] [] h Q) : am_W (X_Club_led d) 4 [some (.ref 0), some (.int x1)] [] h Q :=
  am_iload_n d_Club_led_4 rfl (i := 1) rfl <|
    am_iconst (v := 4) d_Club_led_5 (by decide) <|
    am_icmp_le (tgt := 13) d_Club_led_6 (by decide) kt kf
theorem b_Club_led_9 {d : Nat} {x1 : Int32} {h : am_H} {Q : am_Q} (q : Q (some (.int (-1))) h) : am_W (X_Club_led d) 9 [some (.ref 0), some (.int x1)] [] h Q :=
  am_iconst (v := (-1)) d_Club_led_9 (by decide) <|
    am_goto (tgt := 21) d_Club_led_10 (by decide) <|
    am_iret rfl d_Club_led_21 q
theorem b_Club_led_13 {d : Nat} {x1 : Int32} {h : am_H} {Q : am_Q} (k : m_Deed_tally d [.ref 19, .int x1] h (fun r hh => am_W (X_Club_led (d + 1)) 21 [some (.ref 0), some (.int x1)] (r.toList ++ []) hh Q)) : am_W (X_Club_led (d + 1)) 13 [some (.ref 0), some (.int x1)] [] h Q :=
  am_aload_n d_Club_led_13 rfl (i := 0) rfl <|
    am_getR (ci := 0) (i := 5) rfl rfl rfl (Nat.le_of_ble_eq_true rfl) w_367 d_Club_led_14 <|
    am_iload_n d_Club_led_17 rfl (i := 1) rfl <|
    am_callV (vs := [.int x1]) (st := []) (k := 19) (ci := 6) rfl d_Club_led_18 rfl rfl w_1075 w_1076 w_1077 w_90 w_1078 p_Deed_tally (Nat.le_of_ble_eq_true rfl) (Nat.le_of_ble_eq_true rfl) rfl k
theorem b_Club_led_21 {d : Nat} {x1 : Int32} {y0 : Int32} {h : am_H} {Q : am_Q} (q : Q (some (.int y0)) h) : am_W (X_Club_led d) 21 [some (.ref 0), some (.int x1)] [.int y0] h Q :=
  am_iret rfl d_Club_led_21 q
theorem t_Club_led_9 {d : Nat} {x1 : Int32} {h : am_H} {Q : am_Q} {res : Int32} (e : f_Club_led_9 h = some res) (q : Q (some (.int res)) h) : am_W (X_Club_led (d + 1)) 9 [some (.ref 0), some (.int x1)] [] h Q :=
  b_Club_led_9 (d := (d + 1)) (q := (am_rIp (v := (-1)) e q))
theorem t_Club_led_21 {d : Nat} {x1 : Int32} {y0 : Int32} {h : am_H} {Q : am_Q} {res : Int32} (e : f_Club_led_21 h y0 = some res) (q : Q (some (.int res)) h) : am_W (X_Club_led (d + 1)) 21 [some (.ref 0), some (.int x1)] [.int y0] h Q :=
  b_Club_led_21 (d := (d + 1)) (q := (am_rIp (v := y0) e q))
theorem t_Club_led_13 {d : Nat} {x1 : Int32} {h : am_H} {Q : am_Q} {res : Int32} (e : f_Club_led_13 h x1 = some res) (q : Q (some (.int res)) h) : am_W (X_Club_led (d + 1)) 13 [some (.ref 0), some (.int x1)] [] h Q :=
  (am_bd e).elim fun p hp => b_Club_led_13 (d := d) (k := c_Deed_tally (d := d) hp.1 (t_Club_led_21 hp.2 q))
theorem t_Club_led_4 {d : Nat} {x1 : Int32} {h : am_H} {Q : am_Q} {res : Int32} (e : f_Club_led_4 h x1 = some res) (q : Q (some (.int res)) h) : am_W (X_Club_led (d + 1)) 4 [some (.ref 0), some (.int x1)] [] h Q :=
  b_Club_led_4 (d := (d + 1)) (kt := fun c => (t_Club_led_13 (am_ift e c) q)) (kf := fun c => (t_Club_led_9 (am_ife e c) q))
theorem t_Club_led_0 {d : Nat} {x1 : Int32} {h : am_H} {Q : am_Q} {res : Int32} (e : f_Club_led h x1 = some res) (q : Q (some (.int res)) h) : am_W (X_Club_led (d + 1)) 0 [some (.ref 0), some (.int x1)] [] h Q :=
  b_Club_led_0 (d := (d + 1)) (kt := fun c => (t_Club_led_9 (am_ift e c) q)) (kf := fun c => (t_Club_led_4 (am_ife e c) q))
theorem c_Club_led {d : Nat} {x1 : Int32} {h : am_H} {Q : am_Q} {res : Int32} (e : f_Club_led h x1 = some res) (q : Q (some (.int res)) h) : m_Club_led (d + 1) [.ref 0, .int x1] h Q :=
  e_Club_led (t_Club_led_0 e q)
theorem d_Deed_keepImage_0 : decode prog_3_method_7_code 0 = .ok (.aload_n 0, 1) := by decide +kernel
theorem d_Deed_keepImage_1 : decode prog_3_method_7_code 1 = .ok (.getfield 11, 3) := by decide +kernel
theorem d_Deed_keepImage_4 : decode prog_3_method_7_code 4 = .ok (.iconst 0, 1) := by decide +kernel
theorem d_Deed_keepImage_5 : decode prog_3_method_7_code 5 = .ok (.aload_n 0, 1) := by decide +kernel
theorem d_Deed_keepImage_6 : decode prog_3_method_7_code 6 = .ok (.getfield 15, 3) := by decide +kernel
theorem d_Deed_keepImage_9 : decode prog_3_method_7_code 9 = .ok (.iconst 0, 1) := by decide +kernel
theorem d_Deed_keepImage_10 : decode prog_3_method_7_code 10 = .ok (.bipush 6, 2) := by decide +kernel
theorem d_Deed_keepImage_12 : decode prog_3_method_7_code 12 = .ok (.invokestatic 50, 3) := by decide +kernel
theorem d_Deed_keepImage_15 : decode prog_3_method_7_code 15 = .ok (.aload_n 0, 1) := by decide +kernel
theorem d_Deed_keepImage_16 : decode prog_3_method_7_code 16 = .ok (.iconst 1, 1) := by decide +kernel
theorem d_Deed_keepImage_17 : decode prog_3_method_7_code 17 = .ok (.putfield 18, 3) := by decide +kernel
theorem d_Deed_keepImage_20 : decode prog_3_method_7_code 20 = .ok (.aload_n 0, 1) := by decide +kernel
theorem d_Deed_keepImage_21 : decode prog_3_method_7_code 21 = .ok (.getfield 11, 3) := by decide +kernel
theorem d_Deed_keepImage_24 : decode prog_3_method_7_code 24 = .ok (.iconst 5, 1) := by decide +kernel
theorem d_Deed_keepImage_25 : decode prog_3_method_7_code 25 = .ok (.iaload, 1) := by decide +kernel
theorem d_Deed_keepImage_26 : decode prog_3_method_7_code 26 = .ok (.ireturn, 1) := by decide +kernel
theorem b_Deed_keepImage_0 {d : Nat} {h : am_H} {Q : am_Q} (k : am_W (X_Deed_keepImage d) 15 [some (.ref 19)] [] (am_cI h 20 21 (0 : Int32).toNatClampNeg (0 : Int32).toNatClampNeg (6 : Int32).toNatClampNeg) Q) : am_W (X_Deed_keepImage d) 0 [some (.ref 19)] [] h Q :=
  am_aload_n d_Deed_keepImage_0 rfl (i := 0) rfl <|
    am_getR (ci := 6) (i := 2) rfl rfl rfl (Nat.le_of_ble_eq_true rfl) w_284 d_Deed_keepImage_1 <|
    am_iconst (v := 0) d_Deed_keepImage_4 (by decide) <|
    am_aload_n d_Deed_keepImage_5 rfl (i := 0) rfl <|
    am_getR (ci := 6) (i := 3) rfl rfl rfl (Nat.le_of_ble_eq_true rfl) w_285 d_Deed_keepImage_6 <|
    am_iconst (v := 0) d_Deed_keepImage_9 (by decide) <|
    am_bipush (v := 6) d_Deed_keepImage_10 (by decide) <|
    am_copyI d_Deed_keepImage_12 w_1087 w_495 w_494 w_96 rfl rfl (by decide) (by decide) (by decide) (by decide) (by decide) (Nat.le_of_ble_eq_true rfl) k
theorem b_Deed_keepImage_15 {d : Nat} {h : am_H} {Q : am_Q} (q : Q (some (.int ((am_pI h 19 4 1).1 20 (5 : Int32).toNatClampNeg))) (am_pI h 19 4 1)) : am_W (X_Deed_keepImage d) 15 [some (.ref 19)] [] h Q :=
  am_aload_n d_Deed_keepImage_15 rfl (i := 0) rfl <|
    am_iconst (v := 1) d_Deed_keepImage_16 (by decide) <|
    am_putI (ci := 6) (i := 4) rfl rfl rfl (Nat.le_of_ble_eq_true rfl) w_286 rfl (by decide) (by decide) d_Deed_keepImage_17 <|
    am_aload_n d_Deed_keepImage_20 rfl (i := 0) rfl <|
    am_getR (ci := 6) (i := 2) rfl rfl rfl (Nat.le_of_ble_eq_true rfl) w_284 d_Deed_keepImage_21 <|
    am_iconst (v := 5) d_Deed_keepImage_24 (by decide) <|
    am_iald rfl (am_vin (by decide)) d_Deed_keepImage_25 <|
    am_iret rfl d_Deed_keepImage_26 q
theorem t_Deed_keepImage_15 {d : Nat} {h : am_H} {Q : am_Q} {res : Int32 × am_H} (e : f_Deed_keepImage_15 h = res) (q : Q (some (.int res.1)) res.2) : am_W (X_Deed_keepImage d) 15 [some (.ref 19)] [] h Q :=
  b_Deed_keepImage_15 (d := d) (q := (am_rIti (v := ((am_pI h 19 4 1).1 20 (5 : Int32).toNatClampNeg)) e q))
theorem t_Deed_keepImage_0 {d : Nat} {h : am_H} {Q : am_Q} {res : Int32 × am_H} (e : f_Deed_keepImage h = res) (q : Q (some (.int res.1)) res.2) : am_W (X_Deed_keepImage d) 0 [some (.ref 19)] [] h Q :=
  b_Deed_keepImage_0 (d := d) (k := (t_Deed_keepImage_15 e q))
theorem c_Deed_keepImage {d : Nat} {h : am_H} {Q : am_Q} {res : Int32 × am_H} (e : f_Deed_keepImage h = res) (q : Q (some (.int res.1)) res.2) : m_Deed_keepImage d [.ref 19] h Q :=
  e_Deed_keepImage (t_Deed_keepImage_0 e q)
theorem d_Club_image_0 : decode prog_1_method_28_code 0 = .ok (.aload_n 0, 1) := by decide +kernel
theorem d_Club_image_1 : decode prog_1_method_28_code 1 = .ok (.getfield 55, 3) := by decide +kernel
theorem d_Club_image_4 : decode prog_1_method_28_code 4 = .ok (.invokevirtual 281, 3) := by decide +kernel
theorem d_Club_image_7 : decode prog_1_method_28_code 7 = .ok (.ireturn, 1) := by decide +kernel
theorem b_Club_image_0 {d : Nat} {h : am_H} {Q : am_Q} (k : m_Deed_keepImage d [.ref 19] h (fun r hh => am_W (X_Club_image (d + 1)) 7 [some (.ref 0)] (r.toList ++ []) hh Q)) : am_W (X_Club_image (d + 1)) 0 [some (.ref 0)] [] h Q :=
  am_aload_n d_Club_image_0 rfl (i := 0) rfl <|
    am_getR (ci := 0) (i := 5) rfl rfl rfl (Nat.le_of_ble_eq_true rfl) w_367 d_Club_image_1 <|
    am_callV (vs := []) (st := []) (k := 19) (ci := 6) rfl d_Club_image_4 rfl rfl w_1083 w_1084 w_1085 w_90 w_1086 p_Deed_keepImage (Nat.le_of_ble_eq_true rfl) (Nat.le_of_ble_eq_true rfl) rfl k
theorem b_Club_image_7 {d : Nat} {y0 : Int32} {h : am_H} {Q : am_Q} (q : Q (some (.int y0)) h) : am_W (X_Club_image d) 7 [some (.ref 0)] [.int y0] h Q :=
  am_iret rfl d_Club_image_7 q
theorem t_Club_image_7 {d : Nat} {y0 : Int32} {h : am_H} {Q : am_Q} {res : Int32 × am_H} (e : f_Club_image_7 h y0 = res) (q : Q (some (.int res.1)) res.2) : am_W (X_Club_image (d + 1)) 7 [some (.ref 0)] [.int y0] h Q :=
  b_Club_image_7 (d := (d + 1)) (q := (am_rIti (v := y0) e q))
theorem t_Club_image_0 {d : Nat} {h : am_H} {Q : am_Q} {res : Int32 × am_H} (e : f_Club_image h = res) (q : Q (some (.int res.1)) res.2) : am_W (X_Club_image (d + 1)) 0 [some (.ref 0)] [] h Q :=
  b_Club_image_0 (d := d) (k := c_Deed_keepImage (d := d) rfl (t_Club_image_7 e q))
theorem c_Club_image {d : Nat} {h : am_H} {Q : am_Q} {res : Int32 × am_H} (e : f_Club_image h = res) (q : Q (some (.int res.1)) res.2) : m_Club_image (d + 1) [.ref 0] h Q :=
  e_Club_image (t_Club_image_0 e q)
theorem d_Deed_hasImage_0 : decode prog_3_method_6_code 0 = .ok (.aload_n 0, 1) := by decide +kernel
theorem d_Deed_hasImage_1 : decode prog_3_method_6_code 1 = .ok (.getfield 18, 3) := by decide +kernel
theorem d_Deed_hasImage_4 : decode prog_3_method_6_code 4 = .ok (.ireturn, 1) := by decide +kernel
theorem b_Deed_hasImage_0 {d : Nat} {h : am_H} {Q : am_Q} (q0 : narrow .boolean (.int (h.1 19 4)) = .int (h.1 19 4)) (q : Q (some (.int (h.1 19 4))) h) : am_W (X_Deed_hasImage d) 0 [some (.ref 19)] [] h Q :=
  am_aload_n d_Deed_hasImage_0 rfl (i := 0) rfl <|
    am_getI (ci := 6) (i := 4) rfl rfl rfl (Nat.le_of_ble_eq_true rfl) w_286 d_Deed_hasImage_1 <|
    am_zret (ty := .boolean) rfl q0 d_Deed_hasImage_4 q
theorem t_Deed_hasImage_0 {d : Nat} {h : am_H} {Q : am_Q} {res : Bool} (e : f_Deed_hasImage h = some res) (q : Q (some (.int (am_b res))) h) : am_W (X_Deed_hasImage d) 0 [some (.ref 19)] [] h Q :=
  b_Deed_hasImage_0 (d := d) (q0 := (am_n01 (am_gd e))) (q := (am_rZx (h.1 19 4) (am_gd e) (am_ga e) q))
theorem c_Deed_hasImage {d : Nat} {h : am_H} {Q : am_Q} {res : Bool} (e : f_Deed_hasImage h = some res) (q : Q (some (.int (am_b res))) h) : m_Deed_hasImage d [.ref 19] h Q :=
  e_Deed_hasImage (t_Deed_hasImage_0 e q)
theorem d_Deed_layImageBack_0 : decode prog_3_method_8_code 0 = .ok (.aload_n 0, 1) := by decide +kernel
theorem d_Deed_layImageBack_1 : decode prog_3_method_8_code 1 = .ok (.getfield 15, 3) := by decide +kernel
theorem d_Deed_layImageBack_4 : decode prog_3_method_8_code 4 = .ok (.iconst 0, 1) := by decide +kernel
theorem d_Deed_layImageBack_5 : decode prog_3_method_8_code 5 = .ok (.aload_n 0, 1) := by decide +kernel
theorem d_Deed_layImageBack_6 : decode prog_3_method_8_code 6 = .ok (.getfield 11, 3) := by decide +kernel
theorem d_Deed_layImageBack_9 : decode prog_3_method_8_code 9 = .ok (.iconst 0, 1) := by decide +kernel
theorem d_Deed_layImageBack_10 : decode prog_3_method_8_code 10 = .ok (.bipush 6, 2) := by decide +kernel
theorem d_Deed_layImageBack_12 : decode prog_3_method_8_code 12 = .ok (.invokestatic 50, 3) := by decide +kernel
theorem d_Deed_layImageBack_15 : decode prog_3_method_8_code 15 = .ok (.aload_n 0, 1) := by decide +kernel
theorem d_Deed_layImageBack_16 : decode prog_3_method_8_code 16 = .ok (.getfield 11, 3) := by decide +kernel
theorem d_Deed_layImageBack_19 : decode prog_3_method_8_code 19 = .ok (.iconst 5, 1) := by decide +kernel
theorem d_Deed_layImageBack_20 : decode prog_3_method_8_code 20 = .ok (.iaload, 1) := by decide +kernel
theorem d_Deed_layImageBack_21 : decode prog_3_method_8_code 21 = .ok (.ireturn, 1) := by decide +kernel
theorem b_Deed_layImageBack_0 {d : Nat} {h : am_H} {Q : am_Q} (k : am_W (X_Deed_layImageBack d) 15 [some (.ref 19)] [] (am_cI h 21 20 (0 : Int32).toNatClampNeg (0 : Int32).toNatClampNeg (6 : Int32).toNatClampNeg) Q) : am_W (X_Deed_layImageBack d) 0 [some (.ref 19)] [] h Q :=
  am_aload_n d_Deed_layImageBack_0 rfl (i := 0) rfl <|
    am_getR (ci := 6) (i := 3) rfl rfl rfl (Nat.le_of_ble_eq_true rfl) w_285 d_Deed_layImageBack_1 <|
    am_iconst (v := 0) d_Deed_layImageBack_4 (by decide) <|
    am_aload_n d_Deed_layImageBack_5 rfl (i := 0) rfl <|
    am_getR (ci := 6) (i := 2) rfl rfl rfl (Nat.le_of_ble_eq_true rfl) w_284 d_Deed_layImageBack_6 <|
    am_iconst (v := 0) d_Deed_layImageBack_9 (by decide) <|
    am_bipush (v := 6) d_Deed_layImageBack_10 (by decide) <|
    am_copyI d_Deed_layImageBack_12 w_1087 w_495 w_494 w_96 rfl rfl (by decide) (by decide) (by decide) (by decide) (by decide) (Nat.le_of_ble_eq_true rfl) k
theorem b_Deed_layImageBack_15 {d : Nat} {h : am_H} {Q : am_Q} (q : Q (some (.int (h.1 20 (5 : Int32).toNatClampNeg))) h) : am_W (X_Deed_layImageBack d) 15 [some (.ref 19)] [] h Q :=
  am_aload_n d_Deed_layImageBack_15 rfl (i := 0) rfl <|
    am_getR (ci := 6) (i := 2) rfl rfl rfl (Nat.le_of_ble_eq_true rfl) w_284 d_Deed_layImageBack_16 <|
    am_iconst (v := 5) d_Deed_layImageBack_19 (by decide) <|
    am_iald rfl (am_vin (by decide)) d_Deed_layImageBack_20 <|
    am_iret rfl d_Deed_layImageBack_21 q
theorem t_Deed_layImageBack_15 {d : Nat} {h : am_H} {Q : am_Q} {res : Int32 × am_H} (e : f_Deed_layImageBack_15 h = res) (q : Q (some (.int res.1)) res.2) : am_W (X_Deed_layImageBack d) 15 [some (.ref 19)] [] h Q :=
  b_Deed_layImageBack_15 (d := d) (q := (am_rIti (v := (h.1 20 (5 : Int32).toNatClampNeg)) e q))
theorem t_Deed_layImageBack_0 {d : Nat} {h : am_H} {Q : am_Q} {res : Int32 × am_H} (e : f_Deed_layImageBack h = res) (q : Q (some (.int res.1)) res.2) : am_W (X_Deed_layImageBack d) 0 [some (.ref 19)] [] h Q :=
  b_Deed_layImageBack_0 (d := d) (k := (t_Deed_layImageBack_15 e q))
theorem c_Deed_layImageBack {d : Nat} {h : am_H} {Q : am_Q} {res : Int32 × am_H} (e : f_Deed_layImageBack h = res) (q : Q (some (.int res.1)) res.2) : m_Deed_layImageBack d [.ref 19] h Q :=
  e_Deed_layImageBack (t_Deed_layImageBack_0 e q)
theorem d_Club_back_0 : decode prog_1_method_29_code 0 = .ok (.aload_n 0, 1) := by decide +kernel
theorem d_Club_back_1 : decode prog_1_method_29_code 1 = .ok (.getfield 55, 3) := by decide +kernel
theorem d_Club_back_4 : decode prog_1_method_29_code 4 = .ok (.invokevirtual 284, 3) := by decide +kernel
theorem d_Club_back_7 : decode prog_1_method_29_code 7 = .ok (.ifCond .eq 13, 3) := by decide +kernel
theorem d_Club_back_10 : decode prog_1_method_29_code 10 = .ok (.aload_n 0, 1) := by decide +kernel
theorem d_Club_back_11 : decode prog_1_method_29_code 11 = .ok (.getfield 55, 3) := by decide +kernel
theorem d_Club_back_14 : decode prog_1_method_29_code 14 = .ok (.invokevirtual 287, 3) := by decide +kernel
theorem d_Club_back_17 : decode prog_1_method_29_code 17 = .ok (.goto 5, 3) := by decide +kernel
theorem d_Club_back_20 : decode prog_1_method_29_code 20 = .ok (.bipush (-5), 2) := by decide +kernel
theorem d_Club_back_22 : decode prog_1_method_29_code 22 = .ok (.ireturn, 1) := by decide +kernel
theorem b_Club_back_0 {d : Nat} {h : am_H} {Q : am_Q} (k : m_Deed_hasImage d [.ref 19] h (fun r hh => am_W (X_Club_back (d + 1)) 7 [some (.ref 0)] (r.toList ++ []) hh Q)) : am_W (X_Club_back (d + 1)) 0 [some (.ref 0)] [] h Q :=
  am_aload_n d_Club_back_0 rfl (i := 0) rfl <|
    am_getR (ci := 0) (i := 5) rfl rfl rfl (Nat.le_of_ble_eq_true rfl) w_367 d_Club_back_1 <|
    am_callV (vs := []) (st := []) (k := 19) (ci := 6) rfl d_Club_back_4 rfl rfl w_1092 w_1093 w_1094 w_90 w_1095 p_Deed_hasImage (Nat.le_of_ble_eq_true rfl) (Nat.le_of_ble_eq_true rfl) rfl k
theorem b_Club_back_7 {d : Nat} {y0 : Bool} {h : am_H} {Q : am_Q} (kt : (am_b y0) = 0 → am_W (X_Club_back d) 20 [some (.ref 0)] [] h Q) (kf : ¬ (am_b y0) = 0 → am_W (X_Club_back d) 10 [some (.ref 0)] [] h Q) : am_W (X_Club_back d) 7 [some (.ref 0)] [.int (am_b y0)] h Q :=
  am_if_eq (tgt := 20) d_Club_back_7 (by decide) kt kf
theorem b_Club_back_10 {d : Nat} {h : am_H} {Q : am_Q} (k : m_Deed_layImageBack d [.ref 19] h (fun r hh => am_W (X_Club_back (d + 1)) 17 [some (.ref 0)] (r.toList ++ []) hh Q)) : am_W (X_Club_back (d + 1)) 10 [some (.ref 0)] [] h Q :=
  am_aload_n d_Club_back_10 rfl (i := 0) rfl <|
    am_getR (ci := 0) (i := 5) rfl rfl rfl (Nat.le_of_ble_eq_true rfl) w_367 d_Club_back_11 <|
    am_callV (vs := []) (st := []) (k := 19) (ci := 6) rfl d_Club_back_14 rfl rfl w_1096 w_1097 w_1098 w_90 w_1099 p_Deed_layImageBack (Nat.le_of_ble_eq_true rfl) (Nat.le_of_ble_eq_true rfl) rfl k
theorem b_Club_back_17 {d : Nat} {y0 : Int32} {h : am_H} {Q : am_Q} (q : Q (some (.int y0)) h) : am_W (X_Club_back d) 17 [some (.ref 0)] [.int y0] h Q :=
  am_goto (tgt := 22) d_Club_back_17 (by decide) <|
    am_iret rfl d_Club_back_22 q
theorem b_Club_back_20 {d : Nat} {h : am_H} {Q : am_Q} (q : Q (some (.int (-5))) h) : am_W (X_Club_back d) 20 [some (.ref 0)] [] h Q :=
  am_bipush (v := (-5)) d_Club_back_20 (by decide) <|
    am_iret rfl d_Club_back_22 q
theorem t_Club_back_20 {d : Nat} {h : am_H} {Q : am_Q} {res : Int32 × am_H} (e : f_Club_back_20 h = some res) (q : Q (some (.int res.1)) res.2) : am_W (X_Club_back (d + 1)) 20 [some (.ref 0)] [] h Q :=
  b_Club_back_20 (d := (d + 1)) (q := (am_rIpi (v := (-5)) e q))
theorem t_Club_back_17 {d : Nat} {y0 : Int32} {h : am_H} {Q : am_Q} {res : Int32 × am_H} (e : f_Club_back_17 h y0 = some res) (q : Q (some (.int res.1)) res.2) : am_W (X_Club_back (d + 1)) 17 [some (.ref 0)] [.int y0] h Q :=
  b_Club_back_17 (d := (d + 1)) (q := (am_rIpi (v := y0) e q))
theorem t_Club_back_10 {d : Nat} {h : am_H} {Q : am_Q} {res : Int32 × am_H} (e : f_Club_back_10 h = some res) (q : Q (some (.int res.1)) res.2) : am_W (X_Club_back (d + 1)) 10 [some (.ref 0)] [] h Q :=
  b_Club_back_10 (d := d) (k := c_Deed_layImageBack (d := d) rfl (t_Club_back_17 e q))
theorem t_Club_back_7 {d : Nat} {y0 : Bool} {h : am_H} {Q : am_Q} {res : Int32 × am_H} (e : f_Club_back_7 h y0 = some res) (q : Q (some (.int res.1)) res.2) : am_W (X_Club_back (d + 1)) 7 [some (.ref 0)] [.int (am_b y0)] h Q :=
  b_Club_back_7 (d := (d + 1)) (kt := fun c => (t_Club_back_20 (am_iff e (am_bz c)) q)) (kf := fun c => (t_Club_back_10 (am_ift e (am_bn c)) q))
theorem t_Club_back_0 {d : Nat} {h : am_H} {Q : am_Q} {res : Int32 × am_H} (e : f_Club_back h = some res) (q : Q (some (.int res.1)) res.2) : am_W (X_Club_back (d + 1)) 0 [some (.ref 0)] [] h Q :=
  (am_bd e).elim fun p hp => b_Club_back_0 (d := d) (k := c_Deed_hasImage (d := d) hp.1 (t_Club_back_7 hp.2 q))
theorem c_Club_back {d : Nat} {h : am_H} {Q : am_Q} {res : Int32 × am_H} (e : f_Club_back h = some res) (q : Q (some (.int res.1)) res.2) : m_Club_back (d + 1) [.ref 0] h Q :=
  e_Club_back (t_Club_back_0 e q)
theorem d_Changes_isPlace_0 : decode prog_2_method_8_code 0 = .ok (.iload_n 0, 1) := by decide +kernel
theorem d_Changes_isPlace_1 : decode prog_2_method_8_code 1 = .ok (.ifCond .lt 13, 3) := by decide +kernel
theorem d_Changes_isPlace_4 : decode prog_2_method_8_code 4 = .ok (.iload_n 0, 1) := by decide +kernel
theorem d_Changes_isPlace_5 : decode prog_2_method_8_code 5 = .ok (.bipush 40, 2) := by decide +kernel
theorem d_Changes_isPlace_7 : decode prog_2_method_8_code 7 = .ok (.if_icmp .ge 7, 3) := by decide +kernel
theorem d_Changes_isPlace_10 : decode prog_2_method_8_code 10 = .ok (.iconst 1, 1) := by decide +kernel
theorem d_Changes_isPlace_11 : decode prog_2_method_8_code 11 = .ok (.goto 4, 3) := by decide +kernel
theorem d_Changes_isPlace_14 : decode prog_2_method_8_code 14 = .ok (.iconst 0, 1) := by decide +kernel
theorem d_Changes_isPlace_15 : decode prog_2_method_8_code 15 = .ok (.ireturn, 1) := by decide +kernel
theorem b_Changes_isPlace_0 {d : Nat} {x0 : Int32} {h : am_H} {Q : am_Q} (kt : x0 < 0 → am_W (X_Changes_isPlace d) 14 [some (.int x0)] [] h Q) (kf : ¬ x0 < 0 → am_W (X_Changes_isPlace d) 4 [some (.int x0)] [] h Q) : am_W (X_Changes_isPlace d) 0 [some (.int x0)] [] h Q :=
  am_iload_n d_Changes_isPlace_0 rfl (i := 0) rfl <|
    am_if_lt (tgt := 14) d_Changes_isPlace_1 (by decide) kt kf
theorem b_Changes_isPlace_4 {d : Nat} {x0 : Int32} {h : am_H} {Q : am_Q} (kt : 40 ≤ x0 → am_W (X_Changes_isPlace d) 14 [some (.int x0)] [] h Q) (kf : ¬ 40 ≤ x0 → am_W (X_Changes_isPlace d) 10 [some (.int x0)] [] h Q) : am_W (X_Changes_isPlace d) 4 [some (.int x0)] [] h Q :=
  am_iload_n d_Changes_isPlace_4 rfl (i := 0) rfl <|
    am_bipush (v := 40) d_Changes_isPlace_5 (by decide) <|
    am_icmp_ge (tgt := 14) d_Changes_isPlace_7 (by decide) kt kf
theorem b_Changes_isPlace_10 {d : Nat} {x0 : Int32} {h : am_H} {Q : am_Q} (q : Q (some (.int 1)) h) : am_W (X_Changes_isPlace d) 10 [some (.int x0)] [] h Q :=
  am_iconst (v := 1) d_Changes_isPlace_10 (by decide) <|
    am_goto (tgt := 15) d_Changes_isPlace_11 (by decide) <|
    am_zret (ty := .boolean) rfl (by decide) d_Changes_isPlace_15 q
theorem b_Changes_isPlace_14 {d : Nat} {x0 : Int32} {h : am_H} {Q : am_Q} (q : Q (some (.int 0)) h) : am_W (X_Changes_isPlace d) 14 [some (.int x0)] [] h Q :=
  am_iconst (v := 0) d_Changes_isPlace_14 (by decide) <|
    am_zret (ty := .boolean) rfl (by decide) d_Changes_isPlace_15 q
theorem t_Changes_isPlace_14 {d : Nat} {x0 : Int32} {h : am_H} {Q : am_Q} {res : Bool} (e : f_Changes_isPlace_14 = res) (q : Q (some (.int (am_b res))) h) : am_W (X_Changes_isPlace d) 14 [some (.int x0)] [] h Q :=
  b_Changes_isPlace_14 (d := d) (q := (am_rZt (v := false) e q))
theorem t_Changes_isPlace_10 {d : Nat} {x0 : Int32} {h : am_H} {Q : am_Q} {res : Bool} (e : f_Changes_isPlace_10 = res) (q : Q (some (.int (am_b res))) h) : am_W (X_Changes_isPlace d) 10 [some (.int x0)] [] h Q :=
  b_Changes_isPlace_10 (d := d) (q := (am_rZt (v := true) e q))
theorem t_Changes_isPlace_4 {d : Nat} {x0 : Int32} {h : am_H} {Q : am_Q} {res : Bool} (e : f_Changes_isPlace_4 x0 = res) (q : Q (some (.int (am_b res))) h) : am_W (X_Changes_isPlace d) 4 [some (.int x0)] [] h Q :=
  b_Changes_isPlace_4 (d := d) (kt := fun c => (t_Changes_isPlace_14 (am_ift e c) q)) (kf := fun c => (t_Changes_isPlace_10 (am_ife e c) q))
theorem t_Changes_isPlace_0 {d : Nat} {x0 : Int32} {h : am_H} {Q : am_Q} {res : Bool} (e : f_Changes_isPlace x0 = res) (q : Q (some (.int (am_b res))) h) : am_W (X_Changes_isPlace d) 0 [some (.int x0)] [] h Q :=
  b_Changes_isPlace_0 (d := d) (kt := fun c => (t_Changes_isPlace_14 (am_ift e c) q)) (kf := fun c => (t_Changes_isPlace_4 (am_ife e c) q))
theorem c_Changes_isPlace {d : Nat} {x0 : Int32} {h : am_H} {Q : am_Q} {res : Bool} (e : f_Changes_isPlace x0 = res) (q : Q (some (.int (am_b res))) h) : m_Changes_isPlace d [.int x0] h Q :=
  e_Changes_isPlace (t_Changes_isPlace_0 e q)
theorem d_Changes_numberOf_0 : decode prog_2_method_9_code 0 = .ok (.iload_n 1, 1) := by decide +kernel
theorem d_Changes_numberOf_1 : decode prog_2_method_9_code 1 = .ok (.invokestatic 38, 3) := by decide +kernel
theorem d_Changes_numberOf_4 : decode prog_2_method_9_code 4 = .ok (.ifCond .eq 12, 3) := by decide +kernel
theorem d_Changes_numberOf_7 : decode prog_2_method_9_code 7 = .ok (.aload_n 0, 1) := by decide +kernel
theorem d_Changes_numberOf_8 : decode prog_2_method_9_code 8 = .ok (.getfield 9, 3) := by decide +kernel
theorem d_Changes_numberOf_11 : decode prog_2_method_9_code 11 = .ok (.iload_n 1, 1) := by decide +kernel
theorem d_Changes_numberOf_12 : decode prog_2_method_9_code 12 = .ok (.iaload, 1) := by decide +kernel
theorem d_Changes_numberOf_13 : decode prog_2_method_9_code 13 = .ok (.goto 4, 3) := by decide +kernel
theorem d_Changes_numberOf_16 : decode prog_2_method_9_code 16 = .ok (.iconst (-1), 1) := by decide +kernel
theorem d_Changes_numberOf_17 : decode prog_2_method_9_code 17 = .ok (.ireturn, 1) := by decide +kernel
theorem b_Changes_numberOf_0 {d : Nat} {x1 : Int32} {h : am_H} {Q : am_Q} (k : m_Changes_isPlace d [.int x1] h (fun r hh => am_W (X_Changes_numberOf (d + 1)) 4 [some (.ref 22), some (.int x1)] (r.toList ++ []) hh Q)) : am_W (X_Changes_numberOf (d + 1)) 0 [some (.ref 22), some (.int x1)] [] h Q :=
  am_iload_n d_Changes_numberOf_0 rfl (i := 1) rfl <|
    am_callS (vs := [.int x1]) (st := []) rfl d_Changes_numberOf_1 w_1112 w_1113 w_91 w_1114 p_Changes_isPlace (Nat.le_of_ble_eq_true rfl) (Nat.le_of_ble_eq_true rfl) rfl k
theorem b_Changes_numberOf_4 {d : Nat} {x1 : Int32} {y0 : Bool} {h : am_H} {Q : am_Q} (kt : (am_b y0) = 0 → am_W (X_Changes_numberOf d) 16 [some (.ref 22), some (.int x1)] [] h Q) (kf : ¬ (am_b y0) = 0 → am_W (X_Changes_numberOf d) 7 [some (.ref 22), some (.int x1)] [] h Q) : am_W (X_Changes_numberOf d) 4 [some (.ref 22), some (.int x1)] [.int (am_b y0)] h Q :=
  am_if_eq (tgt := 16) d_Changes_numberOf_4 (by decide) kt kf
theorem b_Changes_numberOf_7 {d : Nat} {x1 : Int32} {h : am_H} {Q : am_Q} (q0 : vp_in x1 40) (q : Q (some (.int (h.1 23 x1.toNatClampNeg))) h) : am_W (X_Changes_numberOf d) 7 [some (.ref 22), some (.int x1)] [] h Q :=
  am_aload_n d_Changes_numberOf_7 rfl (i := 0) rfl <|
    am_getR (ci := 7) (i := 0) rfl rfl rfl (Nat.le_of_ble_eq_true rfl) w_304 d_Changes_numberOf_8 <|
    am_iload_n d_Changes_numberOf_11 rfl (i := 1) rfl <|
    am_iald rfl q0 d_Changes_numberOf_12 <|
    am_goto (tgt := 17) d_Changes_numberOf_13 (by decide) <|
    am_iret rfl d_Changes_numberOf_17 q
theorem b_Changes_numberOf_16 {d : Nat} {x1 : Int32} {h : am_H} {Q : am_Q} (q : Q (some (.int (-1))) h) : am_W (X_Changes_numberOf d) 16 [some (.ref 22), some (.int x1)] [] h Q :=
  am_iconst (v := (-1)) d_Changes_numberOf_16 (by decide) <|
    am_iret rfl d_Changes_numberOf_17 q
theorem t_Changes_numberOf_16 {d : Nat} {x1 : Int32} {h : am_H} {Q : am_Q} {res : Int32} (e : f_Changes_numberOf_16 h = some res) (q : Q (some (.int res)) h) : am_W (X_Changes_numberOf (d + 1)) 16 [some (.ref 22), some (.int x1)] [] h Q :=
  b_Changes_numberOf_16 (d := (d + 1)) (q := (am_rIp (v := (-1)) e q))
theorem t_Changes_numberOf_7 {d : Nat} {x1 : Int32} {h : am_H} {Q : am_Q} {res : Int32} (e : f_Changes_numberOf_7 h x1 = some res) (q : Q (some (.int res)) h) : am_W (X_Changes_numberOf (d + 1)) 7 [some (.ref 22), some (.int x1)] [] h Q :=
  b_Changes_numberOf_7 (d := (d + 1)) (q0 := (am_okv (am_gd e))) (q := (am_rIp (v := (h.1 23 x1.toNatClampNeg)) (am_ga e) q))
theorem t_Changes_numberOf_4 {d : Nat} {x1 : Int32} {y0 : Bool} {h : am_H} {Q : am_Q} {res : Int32} (e : f_Changes_numberOf_4 h x1 y0 = some res) (q : Q (some (.int res)) h) : am_W (X_Changes_numberOf (d + 1)) 4 [some (.ref 22), some (.int x1)] [.int (am_b y0)] h Q :=
  b_Changes_numberOf_4 (d := (d + 1)) (kt := fun c => (t_Changes_numberOf_16 (am_iff e (am_bz c)) q)) (kf := fun c => (t_Changes_numberOf_7 (am_ift e (am_bn c)) q))
theorem t_Changes_numberOf_0 {d : Nat} {x1 : Int32} {h : am_H} {Q : am_Q} {res : Int32} (e : f_Changes_numberOf h x1 = some res) (q : Q (some (.int res)) h) : am_W (X_Changes_numberOf (d + 1)) 0 [some (.ref 22), some (.int x1)] [] h Q :=
  b_Changes_numberOf_0 (d := d) (k := c_Changes_isPlace (d := d) rfl (t_Changes_numberOf_4 e q))
theorem c_Changes_numberOf {d : Nat} {x1 : Int32} {h : am_H} {Q : am_Q} {res : Int32} (e : f_Changes_numberOf h x1 = some res) (q : Q (some (.int res)) h) : m_Changes_numberOf (d + 1) [.ref 22, .int x1] h Q :=
  e_Changes_numberOf (t_Changes_numberOf_0 e q)
theorem d_Changes_stepBack_0 : decode prog_2_method_6_code 0 = .ok (.aload_n 0, 1) := by decide +kernel
theorem d_Changes_stepBack_1 : decode prog_2_method_6_code 1 = .ok (.getfield 22, 3) := by decide +kernel
theorem d_Changes_stepBack_4 : decode prog_2_method_6_code 4 = .ok (.ifCond .gt 5, 3) := by decide +kernel
theorem d_Changes_stepBack_7 : decode prog_2_method_6_code 7 = .ok (.iconst (-1), 1) := by decide +kernel
theorem d_Changes_stepBack_8 : decode prog_2_method_6_code 8 = .ok (.ireturn, 1) := by decide +kernel
theorem d_Changes_stepBack_9 : decode prog_2_method_6_code 9 = .ok (.aload_n 0, 1) := by decide +kernel
theorem d_Changes_stepBack_10 : decode prog_2_method_6_code 10 = .ok (.dup, 1) := by decide +kernel
theorem d_Changes_stepBack_11 : decode prog_2_method_6_code 11 = .ok (.getfield 22, 3) := by decide +kernel
theorem d_Changes_stepBack_14 : decode prog_2_method_6_code 14 = .ok (.iconst 1, 1) := by decide +kernel
theorem d_Changes_stepBack_15 : decode prog_2_method_6_code 15 = .ok (.isub, 1) := by decide +kernel
theorem d_Changes_stepBack_16 : decode prog_2_method_6_code 16 = .ok (.putfield 22, 3) := by decide +kernel
theorem d_Changes_stepBack_19 : decode prog_2_method_6_code 19 = .ok (.aload_n 0, 1) := by decide +kernel
theorem d_Changes_stepBack_20 : decode prog_2_method_6_code 20 = .ok (.dup, 1) := by decide +kernel
theorem d_Changes_stepBack_21 : decode prog_2_method_6_code 21 = .ok (.getfield 26, 3) := by decide +kernel
theorem d_Changes_stepBack_24 : decode prog_2_method_6_code 24 = .ok (.iconst 1, 1) := by decide +kernel
theorem d_Changes_stepBack_25 : decode prog_2_method_6_code 25 = .ok (.iadd, 1) := by decide +kernel
theorem d_Changes_stepBack_26 : decode prog_2_method_6_code 26 = .ok (.putfield 26, 3) := by decide +kernel
theorem d_Changes_stepBack_29 : decode prog_2_method_6_code 29 = .ok (.aload_n 0, 1) := by decide +kernel
theorem d_Changes_stepBack_30 : decode prog_2_method_6_code 30 = .ok (.getfield 22, 3) := by decide +kernel
theorem d_Changes_stepBack_33 : decode prog_2_method_6_code 33 = .ok (.ireturn, 1) := by decide +kernel
theorem b_Changes_stepBack_0 {d : Nat} {h : am_H} {Q : am_Q} (kt : 0 < (h.1 22 4) → am_W (X_Changes_stepBack d) 9 [some (.ref 22)] [] h Q) (kf : ¬ 0 < (h.1 22 4) → am_W (X_Changes_stepBack d) 7 [some (.ref 22)] [] h Q) : am_W (X_Changes_stepBack d) 0 [some (.ref 22)] [] h Q :=
  am_aload_n d_Changes_stepBack_0 rfl (i := 0) rfl <|
    am_getI (ci := 7) (i := 4) rfl rfl rfl (Nat.le_of_ble_eq_true rfl) w_308 d_Changes_stepBack_1 <|
    am_if_gt (tgt := 9) d_Changes_stepBack_4 (by decide) kt kf
theorem b_Changes_stepBack_7 {d : Nat} {h : am_H} {Q : am_Q} (q : Q (some (.int (-1))) h) : am_W (X_Changes_stepBack d) 7 [some (.ref 22)] [] h Q :=
  am_iconst (v := (-1)) d_Changes_stepBack_7 (by decide) <|
    am_iret rfl d_Changes_stepBack_8 q
theorem b_Changes_stepBack_9 {d : Nat} {h : am_H} {Q : am_Q} (q : Q (some (.int ((am_pI (am_pI h 22 4 ((h.1 22 4) - 1)) 22 5 (((am_pI h 22 4 ((h.1 22 4) - 1)).1 22 5) + 1)).1 22 4))) (am_pI (am_pI h 22 4 ((h.1 22 4) - 1)) 22 5 (((am_pI h 22 4 ((h.1 22 4) - 1)).1 22 5) + 1))) : am_W (X_Changes_stepBack d) 9 [some (.ref 22)] [] h Q :=
  am_aload_n d_Changes_stepBack_9 rfl (i := 0) rfl <|
    am_dupR d_Changes_stepBack_10 <|
    am_getI (ci := 7) (i := 4) rfl rfl rfl (Nat.le_of_ble_eq_true rfl) w_308 d_Changes_stepBack_11 <|
    am_iconst (v := 1) d_Changes_stepBack_14 (by decide) <|
    am_isub d_Changes_stepBack_15 <|
    am_putI (ci := 7) (i := 4) rfl rfl rfl (Nat.le_of_ble_eq_true rfl) w_308 rfl rfl rfl d_Changes_stepBack_16 <|
    am_aload_n d_Changes_stepBack_19 rfl (i := 0) rfl <|
    am_dupR d_Changes_stepBack_20 <|
    am_getI (ci := 7) (i := 5) rfl rfl rfl (Nat.le_of_ble_eq_true rfl) w_309 d_Changes_stepBack_21 <|
    am_iconst (v := 1) d_Changes_stepBack_24 (by decide) <|
    am_iadd d_Changes_stepBack_25 <|
    am_putI (ci := 7) (i := 5) rfl rfl rfl (Nat.le_of_ble_eq_true rfl) w_309 rfl rfl rfl d_Changes_stepBack_26 <|
    am_aload_n d_Changes_stepBack_29 rfl (i := 0) rfl <|
    am_getI (ci := 7) (i := 4) rfl rfl rfl (Nat.le_of_ble_eq_true rfl) w_308 d_Changes_stepBack_30 <|
    am_iret rfl d_Changes_stepBack_33 q
theorem t_Changes_stepBack_9 {d : Nat} {h : am_H} {Q : am_Q} {res : Int32 × am_H} (e : f_Changes_stepBack_9 h = res) (q : Q (some (.int res.1)) res.2) : am_W (X_Changes_stepBack d) 9 [some (.ref 22)] [] h Q :=
  b_Changes_stepBack_9 (d := d) (q := (am_rIti (v := ((am_pI (am_pI h 22 4 ((h.1 22 4) - 1)) 22 5 (((am_pI h 22 4 ((h.1 22 4) - 1)).1 22 5) + 1)).1 22 4)) e q))
theorem t_Changes_stepBack_7 {d : Nat} {h : am_H} {Q : am_Q} {res : Int32 × am_H} (e : f_Changes_stepBack_7 h = res) (q : Q (some (.int res.1)) res.2) : am_W (X_Changes_stepBack d) 7 [some (.ref 22)] [] h Q :=
  b_Changes_stepBack_7 (d := d) (q := (am_rIti (v := (-1)) e q))
theorem t_Changes_stepBack_0 {d : Nat} {h : am_H} {Q : am_Q} {res : Int32 × am_H} (e : f_Changes_stepBack h = res) (q : Q (some (.int res.1)) res.2) : am_W (X_Changes_stepBack d) 0 [some (.ref 22)] [] h Q :=
  b_Changes_stepBack_0 (d := d) (kt := fun c => (t_Changes_stepBack_9 (am_ift e c) q)) (kf := fun c => (t_Changes_stepBack_7 (am_ife e c) q))
theorem c_Changes_stepBack {d : Nat} {h : am_H} {Q : am_Q} {res : Int32 × am_H} (e : f_Changes_stepBack h = res) (q : Q (some (.int res.1)) res.2) : m_Changes_stepBack d [.ref 22] h Q :=
  e_Changes_stepBack (t_Changes_stepBack_0 e q)
theorem d_Changes_toUndo_0 : decode prog_2_method_2_code 0 = .ok (.aload_n 0, 1) := by decide +kernel
theorem d_Changes_toUndo_1 : decode prog_2_method_2_code 1 = .ok (.getfield 22, 3) := by decide +kernel
theorem d_Changes_toUndo_4 : decode prog_2_method_2_code 4 = .ok (.ireturn, 1) := by decide +kernel
theorem b_Changes_toUndo_0 {d : Nat} {h : am_H} {Q : am_Q} (q : Q (some (.int (h.1 22 4))) h) : am_W (X_Changes_toUndo d) 0 [some (.ref 22)] [] h Q :=
  am_aload_n d_Changes_toUndo_0 rfl (i := 0) rfl <|
    am_getI (ci := 7) (i := 4) rfl rfl rfl (Nat.le_of_ble_eq_true rfl) w_308 d_Changes_toUndo_1 <|
    am_iret rfl d_Changes_toUndo_4 q
theorem t_Changes_toUndo_0 {d : Nat} {h : am_H} {Q : am_Q} {res : Int32} (e : f_Changes_toUndo h = res) (q : Q (some (.int res)) h) : am_W (X_Changes_toUndo d) 0 [some (.ref 22)] [] h Q :=
  b_Changes_toUndo_0 (d := d) (q := (am_rIt (v := (h.1 22 4)) e q))
theorem c_Changes_toUndo {d : Nat} {h : am_H} {Q : am_Q} {res : Int32} (e : f_Changes_toUndo h = res) (q : Q (some (.int res)) h) : m_Changes_toUndo d [.ref 22] h Q :=
  e_Changes_toUndo (t_Changes_toUndo_0 e q)
theorem d_Changes_wasOf_0 : decode prog_2_method_11_code 0 = .ok (.iload_n 1, 1) := by decide +kernel
theorem d_Changes_wasOf_1 : decode prog_2_method_11_code 1 = .ok (.invokestatic 38, 3) := by decide +kernel
theorem d_Changes_wasOf_4 : decode prog_2_method_11_code 4 = .ok (.ifCond .eq 12, 3) := by decide +kernel
theorem d_Changes_wasOf_7 : decode prog_2_method_11_code 7 = .ok (.aload_n 0, 1) := by decide +kernel
theorem d_Changes_wasOf_8 : decode prog_2_method_11_code 8 = .ok (.getfield 16, 3) := by decide +kernel
theorem d_Changes_wasOf_11 : decode prog_2_method_11_code 11 = .ok (.iload_n 1, 1) := by decide +kernel
theorem d_Changes_wasOf_12 : decode prog_2_method_11_code 12 = .ok (.iaload, 1) := by decide +kernel
theorem d_Changes_wasOf_13 : decode prog_2_method_11_code 13 = .ok (.goto 4, 3) := by decide +kernel
theorem d_Changes_wasOf_16 : decode prog_2_method_11_code 16 = .ok (.iconst 0, 1) := by decide +kernel
theorem d_Changes_wasOf_17 : decode prog_2_method_11_code 17 = .ok (.ireturn, 1) := by decide +kernel
theorem b_Changes_wasOf_0 {d : Nat} {x1 : Int32} {h : am_H} {Q : am_Q} (k : m_Changes_isPlace d [.int x1] h (fun r hh => am_W (X_Changes_wasOf (d + 1)) 4 [some (.ref 22), some (.int x1)] (r.toList ++ []) hh Q)) : am_W (X_Changes_wasOf (d + 1)) 0 [some (.ref 22), some (.int x1)] [] h Q :=
  am_iload_n d_Changes_wasOf_0 rfl (i := 1) rfl <|
    am_callS (vs := [.int x1]) (st := []) rfl d_Changes_wasOf_1 w_1112 w_1113 w_91 w_1114 p_Changes_isPlace (Nat.le_of_ble_eq_true rfl) (Nat.le_of_ble_eq_true rfl) rfl k
theorem b_Changes_wasOf_4 {d : Nat} {x1 : Int32} {y0 : Bool} {h : am_H} {Q : am_Q} (kt : (am_b y0) = 0 → am_W (X_Changes_wasOf d) 16 [some (.ref 22), some (.int x1)] [] h Q) (kf : ¬ (am_b y0) = 0 → am_W (X_Changes_wasOf d) 7 [some (.ref 22), some (.int x1)] [] h Q) : am_W (X_Changes_wasOf d) 4 [some (.ref 22), some (.int x1)] [.int (am_b y0)] h Q :=
  am_if_eq (tgt := 16) d_Changes_wasOf_4 (by decide) kt kf
theorem b_Changes_wasOf_7 {d : Nat} {x1 : Int32} {h : am_H} {Q : am_Q} (q0 : vp_in x1 40) (q : Q (some (.int (h.1 25 x1.toNatClampNeg))) h) : am_W (X_Changes_wasOf d) 7 [some (.ref 22), some (.int x1)] [] h Q :=
  am_aload_n d_Changes_wasOf_7 rfl (i := 0) rfl <|
    am_getR (ci := 7) (i := 2) rfl rfl rfl (Nat.le_of_ble_eq_true rfl) w_306 d_Changes_wasOf_8 <|
    am_iload_n d_Changes_wasOf_11 rfl (i := 1) rfl <|
    am_iald rfl q0 d_Changes_wasOf_12 <|
    am_goto (tgt := 17) d_Changes_wasOf_13 (by decide) <|
    am_iret rfl d_Changes_wasOf_17 q
theorem b_Changes_wasOf_16 {d : Nat} {x1 : Int32} {h : am_H} {Q : am_Q} (q : Q (some (.int 0)) h) : am_W (X_Changes_wasOf d) 16 [some (.ref 22), some (.int x1)] [] h Q :=
  am_iconst (v := 0) d_Changes_wasOf_16 (by decide) <|
    am_iret rfl d_Changes_wasOf_17 q
theorem t_Changes_wasOf_16 {d : Nat} {x1 : Int32} {h : am_H} {Q : am_Q} {res : Int32} (e : f_Changes_wasOf_16 h = some res) (q : Q (some (.int res)) h) : am_W (X_Changes_wasOf (d + 1)) 16 [some (.ref 22), some (.int x1)] [] h Q :=
  b_Changes_wasOf_16 (d := (d + 1)) (q := (am_rIp (v := 0) e q))
theorem t_Changes_wasOf_7 {d : Nat} {x1 : Int32} {h : am_H} {Q : am_Q} {res : Int32} (e : f_Changes_wasOf_7 h x1 = some res) (q : Q (some (.int res)) h) : am_W (X_Changes_wasOf (d + 1)) 7 [some (.ref 22), some (.int x1)] [] h Q :=
  b_Changes_wasOf_7 (d := (d + 1)) (q0 := (am_okv (am_gd e))) (q := (am_rIp (v := (h.1 25 x1.toNatClampNeg)) (am_ga e) q))
theorem t_Changes_wasOf_4 {d : Nat} {x1 : Int32} {y0 : Bool} {h : am_H} {Q : am_Q} {res : Int32} (e : f_Changes_wasOf_4 h x1 y0 = some res) (q : Q (some (.int res)) h) : am_W (X_Changes_wasOf (d + 1)) 4 [some (.ref 22), some (.int x1)] [.int (am_b y0)] h Q :=
  b_Changes_wasOf_4 (d := (d + 1)) (kt := fun c => (t_Changes_wasOf_16 (am_iff e (am_bz c)) q)) (kf := fun c => (t_Changes_wasOf_7 (am_ift e (am_bn c)) q))
theorem t_Changes_wasOf_0 {d : Nat} {x1 : Int32} {h : am_H} {Q : am_Q} {res : Int32} (e : f_Changes_wasOf h x1 = some res) (q : Q (some (.int res)) h) : am_W (X_Changes_wasOf (d + 1)) 0 [some (.ref 22), some (.int x1)] [] h Q :=
  b_Changes_wasOf_0 (d := d) (k := c_Changes_isPlace (d := d) rfl (t_Changes_wasOf_4 e q))
theorem c_Changes_wasOf {d : Nat} {x1 : Int32} {h : am_H} {Q : am_Q} {res : Int32} (e : f_Changes_wasOf h x1 = some res) (q : Q (some (.int res)) h) : m_Changes_wasOf (d + 1) [.ref 22, .int x1] h Q :=
  e_Changes_wasOf (t_Changes_wasOf_0 e q)
theorem d_Changes_whatOf_0 : decode prog_2_method_10_code 0 = .ok (.iload_n 1, 1) := by decide +kernel
theorem d_Changes_whatOf_1 : decode prog_2_method_10_code 1 = .ok (.invokestatic 38, 3) := by decide +kernel
theorem d_Changes_whatOf_4 : decode prog_2_method_10_code 4 = .ok (.ifCond .eq 12, 3) := by decide +kernel
theorem d_Changes_whatOf_7 : decode prog_2_method_10_code 7 = .ok (.aload_n 0, 1) := by decide +kernel
theorem d_Changes_whatOf_8 : decode prog_2_method_10_code 8 = .ok (.getfield 13, 3) := by decide +kernel
theorem d_Changes_whatOf_11 : decode prog_2_method_10_code 11 = .ok (.iload_n 1, 1) := by decide +kernel
theorem d_Changes_whatOf_12 : decode prog_2_method_10_code 12 = .ok (.iaload, 1) := by decide +kernel
theorem d_Changes_whatOf_13 : decode prog_2_method_10_code 13 = .ok (.goto 4, 3) := by decide +kernel
theorem d_Changes_whatOf_16 : decode prog_2_method_10_code 16 = .ok (.iconst (-1), 1) := by decide +kernel
theorem d_Changes_whatOf_17 : decode prog_2_method_10_code 17 = .ok (.ireturn, 1) := by decide +kernel
theorem b_Changes_whatOf_0 {d : Nat} {x1 : Int32} {h : am_H} {Q : am_Q} (k : m_Changes_isPlace d [.int x1] h (fun r hh => am_W (X_Changes_whatOf (d + 1)) 4 [some (.ref 22), some (.int x1)] (r.toList ++ []) hh Q)) : am_W (X_Changes_whatOf (d + 1)) 0 [some (.ref 22), some (.int x1)] [] h Q :=
  am_iload_n d_Changes_whatOf_0 rfl (i := 1) rfl <|
    am_callS (vs := [.int x1]) (st := []) rfl d_Changes_whatOf_1 w_1112 w_1113 w_91 w_1114 p_Changes_isPlace (Nat.le_of_ble_eq_true rfl) (Nat.le_of_ble_eq_true rfl) rfl k
theorem b_Changes_whatOf_4 {d : Nat} {x1 : Int32} {y0 : Bool} {h : am_H} {Q : am_Q} (kt : (am_b y0) = 0 → am_W (X_Changes_whatOf d) 16 [some (.ref 22), some (.int x1)] [] h Q) (kf : ¬ (am_b y0) = 0 → am_W (X_Changes_whatOf d) 7 [some (.ref 22), some (.int x1)] [] h Q) : am_W (X_Changes_whatOf d) 4 [some (.ref 22), some (.int x1)] [.int (am_b y0)] h Q :=
  am_if_eq (tgt := 16) d_Changes_whatOf_4 (by decide) kt kf
theorem b_Changes_whatOf_7 {d : Nat} {x1 : Int32} {h : am_H} {Q : am_Q} (q0 : vp_in x1 40) (q : Q (some (.int (h.1 24 x1.toNatClampNeg))) h) : am_W (X_Changes_whatOf d) 7 [some (.ref 22), some (.int x1)] [] h Q :=
  am_aload_n d_Changes_whatOf_7 rfl (i := 0) rfl <|
    am_getR (ci := 7) (i := 1) rfl rfl rfl (Nat.le_of_ble_eq_true rfl) w_305 d_Changes_whatOf_8 <|
    am_iload_n d_Changes_whatOf_11 rfl (i := 1) rfl <|
    am_iald rfl q0 d_Changes_whatOf_12 <|
    am_goto (tgt := 17) d_Changes_whatOf_13 (by decide) <|
    am_iret rfl d_Changes_whatOf_17 q
theorem b_Changes_whatOf_16 {d : Nat} {x1 : Int32} {h : am_H} {Q : am_Q} (q : Q (some (.int (-1))) h) : am_W (X_Changes_whatOf d) 16 [some (.ref 22), some (.int x1)] [] h Q :=
  am_iconst (v := (-1)) d_Changes_whatOf_16 (by decide) <|
    am_iret rfl d_Changes_whatOf_17 q
theorem t_Changes_whatOf_16 {d : Nat} {x1 : Int32} {h : am_H} {Q : am_Q} {res : Int32} (e : f_Changes_whatOf_16 h = some res) (q : Q (some (.int res)) h) : am_W (X_Changes_whatOf (d + 1)) 16 [some (.ref 22), some (.int x1)] [] h Q :=
  b_Changes_whatOf_16 (d := (d + 1)) (q := (am_rIp (v := (-1)) e q))
theorem t_Changes_whatOf_7 {d : Nat} {x1 : Int32} {h : am_H} {Q : am_Q} {res : Int32} (e : f_Changes_whatOf_7 h x1 = some res) (q : Q (some (.int res)) h) : am_W (X_Changes_whatOf (d + 1)) 7 [some (.ref 22), some (.int x1)] [] h Q :=
  b_Changes_whatOf_7 (d := (d + 1)) (q0 := (am_okv (am_gd e))) (q := (am_rIp (v := (h.1 24 x1.toNatClampNeg)) (am_ga e) q))
theorem t_Changes_whatOf_4 {d : Nat} {x1 : Int32} {y0 : Bool} {h : am_H} {Q : am_Q} {res : Int32} (e : f_Changes_whatOf_4 h x1 y0 = some res) (q : Q (some (.int res)) h) : am_W (X_Changes_whatOf (d + 1)) 4 [some (.ref 22), some (.int x1)] [.int (am_b y0)] h Q :=
  b_Changes_whatOf_4 (d := (d + 1)) (kt := fun c => (t_Changes_whatOf_16 (am_iff e (am_bz c)) q)) (kf := fun c => (t_Changes_whatOf_7 (am_ift e (am_bn c)) q))
theorem t_Changes_whatOf_0 {d : Nat} {x1 : Int32} {h : am_H} {Q : am_Q} {res : Int32} (e : f_Changes_whatOf h x1 = some res) (q : Q (some (.int res)) h) : am_W (X_Changes_whatOf (d + 1)) 0 [some (.ref 22), some (.int x1)] [] h Q :=
  b_Changes_whatOf_0 (d := d) (k := c_Changes_isPlace (d := d) rfl (t_Changes_whatOf_4 e q))
theorem c_Changes_whatOf {d : Nat} {x1 : Int32} {h : am_H} {Q : am_Q} {res : Int32} (e : f_Changes_whatOf h x1 = some res) (q : Q (some (.int res)) h) : m_Changes_whatOf (d + 1) [.ref 22, .int x1] h Q :=
  e_Changes_whatOf (t_Changes_whatOf_0 e q)
theorem d_Club_undo_0 : decode prog_1_method_30_code 0 = .ok (.aload_n 0, 1) := by decide +kernel
theorem d_Club_undo_1 : decode prog_1_method_30_code 1 = .ok (.getfield 62, 3) := by decide +kernel
theorem d_Club_undo_4 : decode prog_1_method_30_code 4 = .ok (.invokevirtual 290, 3) := by decide +kernel
theorem d_Club_undo_7 : decode prog_1_method_30_code 7 = .ok (.istore_n 1, 1) := by decide +kernel
theorem d_Club_undo_8 : decode prog_1_method_30_code 8 = .ok (.iload_n 1, 1) := by decide +kernel
theorem d_Club_undo_9 : decode prog_1_method_30_code 9 = .ok (.ifCond .ge 6, 3) := by decide +kernel
theorem d_Club_undo_12 : decode prog_1_method_30_code 12 = .ok (.bipush (-5), 2) := by decide +kernel
theorem d_Club_undo_14 : decode prog_1_method_30_code 14 = .ok (.ireturn, 1) := by decide +kernel
theorem d_Club_undo_15 : decode prog_1_method_30_code 15 = .ok (.aload_n 0, 1) := by decide +kernel
theorem d_Club_undo_16 : decode prog_1_method_30_code 16 = .ok (.aload_n 0, 1) := by decide +kernel
theorem d_Club_undo_17 : decode prog_1_method_30_code 17 = .ok (.getfield 62, 3) := by decide +kernel
theorem d_Club_undo_20 : decode prog_1_method_30_code 20 = .ok (.iload_n 1, 1) := by decide +kernel
theorem d_Club_undo_21 : decode prog_1_method_30_code 21 = .ok (.invokevirtual 293, 3) := by decide +kernel
theorem d_Club_undo_24 : decode prog_1_method_30_code 24 = .ok (.aload_n 0, 1) := by decide +kernel
theorem d_Club_undo_25 : decode prog_1_method_30_code 25 = .ok (.getfield 62, 3) := by decide +kernel
theorem d_Club_undo_28 : decode prog_1_method_30_code 28 = .ok (.iload_n 1, 1) := by decide +kernel
theorem d_Club_undo_29 : decode prog_1_method_30_code 29 = .ok (.invokevirtual 296, 3) := by decide +kernel
theorem d_Club_undo_32 : decode prog_1_method_30_code 32 = .ok (.aload_n 0, 1) := by decide +kernel
theorem d_Club_undo_33 : decode prog_1_method_30_code 33 = .ok (.getfield 62, 3) := by decide +kernel
theorem d_Club_undo_36 : decode prog_1_method_30_code 36 = .ok (.iload_n 1, 1) := by decide +kernel
theorem d_Club_undo_37 : decode prog_1_method_30_code 37 = .ok (.invokevirtual 299, 3) := by decide +kernel
theorem d_Club_undo_40 : decode prog_1_method_30_code 40 = .ok (.invokevirtual 125, 3) := by decide +kernel
theorem d_Club_undo_43 : decode prog_1_method_30_code 43 = .ok (.aload_n 0, 1) := by decide +kernel
theorem d_Club_undo_44 : decode prog_1_method_30_code 44 = .ok (.getfield 62, 3) := by decide +kernel
theorem d_Club_undo_47 : decode prog_1_method_30_code 47 = .ok (.invokevirtual 302, 3) := by decide +kernel
theorem d_Club_undo_50 : decode prog_1_method_30_code 50 = .ok (.ireturn, 1) := by decide +kernel
theorem b_Club_undo_0 {d : Nat} {h : am_H} {Q : am_Q} (k : m_Changes_stepBack d [.ref 22] h (fun r hh => am_W (X_Club_undo (d + 1)) 7 [some (.ref 0), none] (r.toList ++ []) hh Q)) : am_W (X_Club_undo (d + 1)) 0 [some (.ref 0), none] [] h Q :=
  am_aload_n d_Club_undo_0 rfl (i := 0) rfl <|
    am_getR (ci := 0) (i := 6) rfl rfl rfl (Nat.le_of_ble_eq_true rfl) w_368 d_Club_undo_1 <|
    am_callV (vs := []) (st := []) (k := 22) (ci := 7) rfl d_Club_undo_4 rfl rfl w_1104 w_1105 w_1106 w_91 w_1107 p_Changes_stepBack (Nat.le_of_ble_eq_true rfl) (Nat.le_of_ble_eq_true rfl) rfl k
theorem b_Club_undo_7 {d : Nat} {y0 : Int32} {h : am_H} {Q : am_Q} (kt : 0 ≤ y0 → am_W (X_Club_undo d) 15 [some (.ref 0), some (.int y0)] [] h Q) (kf : ¬ 0 ≤ y0 → am_W (X_Club_undo d) 12 [some (.ref 0), some (.int y0)] [] h Q) : am_W (X_Club_undo d) 7 [some (.ref 0), none] [.int y0] h Q :=
  am_istore_n (ls' := [some (.ref 0), some (.int y0)]) d_Club_undo_7 rfl (Nat.le_of_ble_eq_true rfl) rfl <|
    am_iload_n d_Club_undo_8 rfl (i := 1) rfl <|
    am_if_ge (tgt := 15) d_Club_undo_9 (by decide) kt kf
theorem b_Club_undo_12 {d : Nat} {x1 : Int32} {h : am_H} {Q : am_Q} (q : Q (some (.int (-5))) h) : am_W (X_Club_undo d) 12 [some (.ref 0), some (.int x1)] [] h Q :=
  am_bipush (v := (-5)) d_Club_undo_12 (by decide) <|
    am_iret rfl d_Club_undo_14 q
theorem b_Club_undo_15 {d : Nat} {x1 : Int32} {h : am_H} {Q : am_Q} (k : m_Changes_numberOf d [.ref 22, .int x1] h (fun r hh => am_W (X_Club_undo (d + 1)) 24 [some (.ref 0), some (.int x1)] (r.toList ++ [.ref 0]) hh Q)) : am_W (X_Club_undo (d + 1)) 15 [some (.ref 0), some (.int x1)] [] h Q :=
  am_aload_n d_Club_undo_15 rfl (i := 0) rfl <|
    am_aload_n d_Club_undo_16 rfl (i := 0) rfl <|
    am_getR (ci := 0) (i := 6) rfl rfl rfl (Nat.le_of_ble_eq_true rfl) w_368 d_Club_undo_17 <|
    am_iload_n d_Club_undo_20 rfl (i := 1) rfl <|
    am_callV (vs := [.int x1]) (st := [.ref 0]) (k := 22) (ci := 7) rfl d_Club_undo_21 rfl rfl w_1108 w_1109 w_1110 w_91 w_1111 p_Changes_numberOf (Nat.le_of_ble_eq_true rfl) (Nat.le_of_ble_eq_true rfl) rfl k
theorem b_Club_undo_24 {d : Nat} {x1 : Int32} {y1 : Int32} {h : am_H} {Q : am_Q} (k : m_Changes_whatOf d [.ref 22, .int x1] h (fun r hh => am_W (X_Club_undo (d + 1)) 32 [some (.ref 0), some (.int x1)] (r.toList ++ [.int y1, .ref 0]) hh Q)) : am_W (X_Club_undo (d + 1)) 24 [some (.ref 0), some (.int x1)] [.int y1, .ref 0] h Q :=
  am_aload_n d_Club_undo_24 rfl (i := 0) rfl <|
    am_getR (ci := 0) (i := 6) rfl rfl rfl (Nat.le_of_ble_eq_true rfl) w_368 d_Club_undo_25 <|
    am_iload_n d_Club_undo_28 rfl (i := 1) rfl <|
    am_callV (vs := [.int x1]) (st := [.int y1, .ref 0]) (k := 22) (ci := 7) rfl d_Club_undo_29 rfl rfl w_1115 w_1116 w_1117 w_91 w_1118 p_Changes_whatOf (Nat.le_of_ble_eq_true rfl) (Nat.le_of_ble_eq_true rfl) rfl k
theorem b_Club_undo_32 {d : Nat} {x1 : Int32} {y2 : Int32} {y1 : Int32} {h : am_H} {Q : am_Q} (k : m_Changes_wasOf d [.ref 22, .int x1] h (fun r hh => am_W (X_Club_undo (d + 1)) 40 [some (.ref 0), some (.int x1)] (r.toList ++ [.int y2, .int y1, .ref 0]) hh Q)) : am_W (X_Club_undo (d + 1)) 32 [some (.ref 0), some (.int x1)] [.int y2, .int y1, .ref 0] h Q :=
  am_aload_n d_Club_undo_32 rfl (i := 0) rfl <|
    am_getR (ci := 0) (i := 6) rfl rfl rfl (Nat.le_of_ble_eq_true rfl) w_368 d_Club_undo_33 <|
    am_iload_n d_Club_undo_36 rfl (i := 1) rfl <|
    am_callV (vs := [.int x1]) (st := [.int y2, .int y1, .ref 0]) (k := 22) (ci := 7) rfl d_Club_undo_37 rfl rfl w_1119 w_1120 w_1121 w_91 w_1122 p_Changes_wasOf (Nat.le_of_ble_eq_true rfl) (Nat.le_of_ble_eq_true rfl) rfl k
theorem b_Club_undo_40 {d : Nat} {x1 : Int32} {y3 : Int32} {y2 : Int32} {y1 : Int32} {h : am_H} {Q : am_Q} (k : m_Club_alter d [.ref 0, .int y1, .int y2, .int y3] h (fun r hh => am_W (X_Club_undo (d + 1)) 43 [some (.ref 0), some (.int x1)] (r.toList ++ []) hh Q)) : am_W (X_Club_undo (d + 1)) 40 [some (.ref 0), some (.int x1)] [.int y3, .int y2, .int y1, .ref 0] h Q :=
  am_callV (vs := [.int y1, .int y2, .int y3]) (st := []) (k := 0) (ci := 0) rfl d_Club_undo_40 rfl rfl w_496 w_498 w_3 w_83 w_499 p_Club_alter (Nat.le_of_ble_eq_true rfl) (Nat.le_of_ble_eq_true rfl) rfl k
theorem b_Club_undo_43 {d : Nat} {x1 : Int32} {h : am_H} {Q : am_Q} (k : m_Changes_toUndo d [.ref 22] h (fun r hh => am_W (X_Club_undo (d + 1)) 50 [some (.ref 0), some (.int x1)] (r.toList ++ []) hh Q)) : am_W (X_Club_undo (d + 1)) 43 [some (.ref 0), some (.int x1)] [] h Q :=
  am_aload_n d_Club_undo_43 rfl (i := 0) rfl <|
    am_getR (ci := 0) (i := 6) rfl rfl rfl (Nat.le_of_ble_eq_true rfl) w_368 d_Club_undo_44 <|
    am_callV (vs := []) (st := []) (k := 22) (ci := 7) rfl d_Club_undo_47 rfl rfl w_1123 w_1124 w_1125 w_91 w_1126 p_Changes_toUndo (Nat.le_of_ble_eq_true rfl) (Nat.le_of_ble_eq_true rfl) rfl k
theorem b_Club_undo_50 {d : Nat} {x1 : Int32} {y0 : Int32} {h : am_H} {Q : am_Q} (q : Q (some (.int y0)) h) : am_W (X_Club_undo d) 50 [some (.ref 0), some (.int x1)] [.int y0] h Q :=
  am_iret rfl d_Club_undo_50 q
theorem t_Club_undo_50 {d : Nat} {x1 : Int32} {y0 : Int32} {h : am_H} {Q : am_Q} {res : Int32 × am_H} (e : f_Club_undo_50 h y0 = some res) (q : Q (some (.int res.1)) res.2) : am_W (X_Club_undo (d + 4)) 50 [some (.ref 0), some (.int x1)] [.int y0] h Q :=
  b_Club_undo_50 (d := (d + 4)) (q := (am_rIpi (v := y0) e q))
theorem t_Club_undo_43 {d : Nat} {x1 : Int32} {h : am_H} {Q : am_Q} {res : Int32 × am_H} (e : f_Club_undo_43 h = some res) (q : Q (some (.int res.1)) res.2) : am_W (X_Club_undo (d + 4)) 43 [some (.ref 0), some (.int x1)] [] h Q :=
  b_Club_undo_43 (d := (d + 3)) (k := c_Changes_toUndo (d := d + 3) rfl (t_Club_undo_50 e q))
theorem t_Club_undo_40 {d : Nat} {x1 : Int32} {y3 : Int32} {y2 : Int32} {y1 : Int32} {h : am_H} {Q : am_Q} {res : Int32 × am_H} (e : f_Club_undo_40 h y3 y2 y1 = some res) (q : Q (some (.int res.1)) res.2) : am_W (X_Club_undo (d + 4)) 40 [some (.ref 0), some (.int x1)] [.int y3, .int y2, .int y1, .ref 0] h Q :=
  (am_bd e).elim fun p hp => b_Club_undo_40 (d := (d + 3)) (k := c_Club_alter (d := d) hp.1 (t_Club_undo_43 hp.2 q))
theorem t_Club_undo_32 {d : Nat} {x1 : Int32} {y2 : Int32} {y1 : Int32} {h : am_H} {Q : am_Q} {res : Int32 × am_H} (e : f_Club_undo_32 h x1 y2 y1 = some res) (q : Q (some (.int res.1)) res.2) : am_W (X_Club_undo (d + 4)) 32 [some (.ref 0), some (.int x1)] [.int y2, .int y1, .ref 0] h Q :=
  (am_bd e).elim fun p hp => b_Club_undo_32 (d := (d + 3)) (k := c_Changes_wasOf (d := d + 2) hp.1 (t_Club_undo_40 hp.2 q))
theorem t_Club_undo_24 {d : Nat} {x1 : Int32} {y1 : Int32} {h : am_H} {Q : am_Q} {res : Int32 × am_H} (e : f_Club_undo_24 h x1 y1 = some res) (q : Q (some (.int res.1)) res.2) : am_W (X_Club_undo (d + 4)) 24 [some (.ref 0), some (.int x1)] [.int y1, .ref 0] h Q :=
  (am_bd e).elim fun p hp => b_Club_undo_24 (d := (d + 3)) (k := c_Changes_whatOf (d := d + 2) hp.1 (t_Club_undo_32 hp.2 q))
theorem t_Club_undo_15 {d : Nat} {x1 : Int32} {h : am_H} {Q : am_Q} {res : Int32 × am_H} (e : f_Club_undo_15 h x1 = some res) (q : Q (some (.int res.1)) res.2) : am_W (X_Club_undo (d + 4)) 15 [some (.ref 0), some (.int x1)] [] h Q :=
  (am_bd e).elim fun p hp => b_Club_undo_15 (d := (d + 3)) (k := c_Changes_numberOf (d := d + 2) hp.1 (t_Club_undo_24 hp.2 q))
theorem t_Club_undo_12 {d : Nat} {x1 : Int32} {h : am_H} {Q : am_Q} {res : Int32 × am_H} (e : f_Club_undo_12 h = some res) (q : Q (some (.int res.1)) res.2) : am_W (X_Club_undo (d + 4)) 12 [some (.ref 0), some (.int x1)] [] h Q :=
  b_Club_undo_12 (d := (d + 4)) (q := (am_rIpi (v := (-5)) e q))
theorem t_Club_undo_7 {d : Nat} {y0 : Int32} {h : am_H} {Q : am_Q} {res : Int32 × am_H} (e : f_Club_undo_7 h y0 = some res) (q : Q (some (.int res.1)) res.2) : am_W (X_Club_undo (d + 4)) 7 [some (.ref 0), none] [.int y0] h Q :=
  b_Club_undo_7 (d := (d + 4)) (kt := fun c => (t_Club_undo_15 (am_ift e c) q)) (kf := fun c => (t_Club_undo_12 (am_ife e c) q))
theorem t_Club_undo_0 {d : Nat} {h : am_H} {Q : am_Q} {res : Int32 × am_H} (e : f_Club_undo h = some res) (q : Q (some (.int res.1)) res.2) : am_W (X_Club_undo (d + 4)) 0 [some (.ref 0), none] [] h Q :=
  b_Club_undo_0 (d := (d + 3)) (k := c_Changes_stepBack (d := d + 3) rfl (t_Club_undo_7 e q))
theorem c_Club_undo {d : Nat} {h : am_H} {Q : am_Q} {res : Int32 × am_H} (e : f_Club_undo h = some res) (q : Q (some (.int res.1)) res.2) : m_Club_undo (d + 4) [.ref 0] h Q :=
  e_Club_undo (t_Club_undo_0 e q)
theorem d_Changes_becameOf_0 : decode prog_2_method_12_code 0 = .ok (.iload_n 1, 1) := by decide +kernel
theorem d_Changes_becameOf_1 : decode prog_2_method_12_code 1 = .ok (.invokestatic 38, 3) := by decide +kernel
theorem d_Changes_becameOf_4 : decode prog_2_method_12_code 4 = .ok (.ifCond .eq 12, 3) := by decide +kernel
theorem d_Changes_becameOf_7 : decode prog_2_method_12_code 7 = .ok (.aload_n 0, 1) := by decide +kernel
theorem d_Changes_becameOf_8 : decode prog_2_method_12_code 8 = .ok (.getfield 19, 3) := by decide +kernel
theorem d_Changes_becameOf_11 : decode prog_2_method_12_code 11 = .ok (.iload_n 1, 1) := by decide +kernel
theorem d_Changes_becameOf_12 : decode prog_2_method_12_code 12 = .ok (.iaload, 1) := by decide +kernel
theorem d_Changes_becameOf_13 : decode prog_2_method_12_code 13 = .ok (.goto 4, 3) := by decide +kernel
theorem d_Changes_becameOf_16 : decode prog_2_method_12_code 16 = .ok (.iconst 0, 1) := by decide +kernel
theorem d_Changes_becameOf_17 : decode prog_2_method_12_code 17 = .ok (.ireturn, 1) := by decide +kernel
theorem b_Changes_becameOf_0 {d : Nat} {x1 : Int32} {h : am_H} {Q : am_Q} (k : m_Changes_isPlace d [.int x1] h (fun r hh => am_W (X_Changes_becameOf (d + 1)) 4 [some (.ref 22), some (.int x1)] (r.toList ++ []) hh Q)) : am_W (X_Changes_becameOf (d + 1)) 0 [some (.ref 22), some (.int x1)] [] h Q :=
  am_iload_n d_Changes_becameOf_0 rfl (i := 1) rfl <|
    am_callS (vs := [.int x1]) (st := []) rfl d_Changes_becameOf_1 w_1112 w_1113 w_91 w_1114 p_Changes_isPlace (Nat.le_of_ble_eq_true rfl) (Nat.le_of_ble_eq_true rfl) rfl k
theorem b_Changes_becameOf_4 {d : Nat} {x1 : Int32} {y0 : Bool} {h : am_H} {Q : am_Q} (kt : (am_b y0) = 0 → am_W (X_Changes_becameOf d) 16 [some (.ref 22), some (.int x1)] [] h Q) (kf : ¬ (am_b y0) = 0 → am_W (X_Changes_becameOf d) 7 [some (.ref 22), some (.int x1)] [] h Q) : am_W (X_Changes_becameOf d) 4 [some (.ref 22), some (.int x1)] [.int (am_b y0)] h Q :=
  am_if_eq (tgt := 16) d_Changes_becameOf_4 (by decide) kt kf
theorem b_Changes_becameOf_7 {d : Nat} {x1 : Int32} {h : am_H} {Q : am_Q} (q0 : vp_in x1 40) (q : Q (some (.int (h.1 26 x1.toNatClampNeg))) h) : am_W (X_Changes_becameOf d) 7 [some (.ref 22), some (.int x1)] [] h Q :=
  am_aload_n d_Changes_becameOf_7 rfl (i := 0) rfl <|
    am_getR (ci := 7) (i := 3) rfl rfl rfl (Nat.le_of_ble_eq_true rfl) w_307 d_Changes_becameOf_8 <|
    am_iload_n d_Changes_becameOf_11 rfl (i := 1) rfl <|
    am_iald rfl q0 d_Changes_becameOf_12 <|
    am_goto (tgt := 17) d_Changes_becameOf_13 (by decide) <|
    am_iret rfl d_Changes_becameOf_17 q
theorem b_Changes_becameOf_16 {d : Nat} {x1 : Int32} {h : am_H} {Q : am_Q} (q : Q (some (.int 0)) h) : am_W (X_Changes_becameOf d) 16 [some (.ref 22), some (.int x1)] [] h Q :=
  am_iconst (v := 0) d_Changes_becameOf_16 (by decide) <|
    am_iret rfl d_Changes_becameOf_17 q
theorem t_Changes_becameOf_16 {d : Nat} {x1 : Int32} {h : am_H} {Q : am_Q} {res : Int32} (e : f_Changes_becameOf_16 h = some res) (q : Q (some (.int res)) h) : am_W (X_Changes_becameOf (d + 1)) 16 [some (.ref 22), some (.int x1)] [] h Q :=
  b_Changes_becameOf_16 (d := (d + 1)) (q := (am_rIp (v := 0) e q))
theorem t_Changes_becameOf_7 {d : Nat} {x1 : Int32} {h : am_H} {Q : am_Q} {res : Int32} (e : f_Changes_becameOf_7 h x1 = some res) (q : Q (some (.int res)) h) : am_W (X_Changes_becameOf (d + 1)) 7 [some (.ref 22), some (.int x1)] [] h Q :=
  b_Changes_becameOf_7 (d := (d + 1)) (q0 := (am_okv (am_gd e))) (q := (am_rIp (v := (h.1 26 x1.toNatClampNeg)) (am_ga e) q))
theorem t_Changes_becameOf_4 {d : Nat} {x1 : Int32} {y0 : Bool} {h : am_H} {Q : am_Q} {res : Int32} (e : f_Changes_becameOf_4 h x1 y0 = some res) (q : Q (some (.int res)) h) : am_W (X_Changes_becameOf (d + 1)) 4 [some (.ref 22), some (.int x1)] [.int (am_b y0)] h Q :=
  b_Changes_becameOf_4 (d := (d + 1)) (kt := fun c => (t_Changes_becameOf_16 (am_iff e (am_bz c)) q)) (kf := fun c => (t_Changes_becameOf_7 (am_ift e (am_bn c)) q))
theorem t_Changes_becameOf_0 {d : Nat} {x1 : Int32} {h : am_H} {Q : am_Q} {res : Int32} (e : f_Changes_becameOf h x1 = some res) (q : Q (some (.int res)) h) : am_W (X_Changes_becameOf (d + 1)) 0 [some (.ref 22), some (.int x1)] [] h Q :=
  b_Changes_becameOf_0 (d := d) (k := c_Changes_isPlace (d := d) rfl (t_Changes_becameOf_4 e q))
theorem c_Changes_becameOf {d : Nat} {x1 : Int32} {h : am_H} {Q : am_Q} {res : Int32} (e : f_Changes_becameOf h x1 = some res) (q : Q (some (.int res)) h) : m_Changes_becameOf (d + 1) [.ref 22, .int x1] h Q :=
  e_Changes_becameOf (t_Changes_becameOf_0 e q)
theorem d_Changes_stepOn_0 : decode prog_2_method_7_code 0 = .ok (.aload_n 0, 1) := by decide +kernel
theorem d_Changes_stepOn_1 : decode prog_2_method_7_code 1 = .ok (.getfield 26, 3) := by decide +kernel
theorem d_Changes_stepOn_4 : decode prog_2_method_7_code 4 = .ok (.ifCond .gt 5, 3) := by decide +kernel
theorem d_Changes_stepOn_7 : decode prog_2_method_7_code 7 = .ok (.iconst (-1), 1) := by decide +kernel
theorem d_Changes_stepOn_8 : decode prog_2_method_7_code 8 = .ok (.ireturn, 1) := by decide +kernel
theorem d_Changes_stepOn_9 : decode prog_2_method_7_code 9 = .ok (.aload_n 0, 1) := by decide +kernel
theorem d_Changes_stepOn_10 : decode prog_2_method_7_code 10 = .ok (.dup, 1) := by decide +kernel
theorem d_Changes_stepOn_11 : decode prog_2_method_7_code 11 = .ok (.getfield 26, 3) := by decide +kernel
theorem d_Changes_stepOn_14 : decode prog_2_method_7_code 14 = .ok (.iconst 1, 1) := by decide +kernel
theorem d_Changes_stepOn_15 : decode prog_2_method_7_code 15 = .ok (.isub, 1) := by decide +kernel
theorem d_Changes_stepOn_16 : decode prog_2_method_7_code 16 = .ok (.putfield 26, 3) := by decide +kernel
theorem d_Changes_stepOn_19 : decode prog_2_method_7_code 19 = .ok (.aload_n 0, 1) := by decide +kernel
theorem d_Changes_stepOn_20 : decode prog_2_method_7_code 20 = .ok (.dup, 1) := by decide +kernel
theorem d_Changes_stepOn_21 : decode prog_2_method_7_code 21 = .ok (.getfield 22, 3) := by decide +kernel
theorem d_Changes_stepOn_24 : decode prog_2_method_7_code 24 = .ok (.iconst 1, 1) := by decide +kernel
theorem d_Changes_stepOn_25 : decode prog_2_method_7_code 25 = .ok (.iadd, 1) := by decide +kernel
theorem d_Changes_stepOn_26 : decode prog_2_method_7_code 26 = .ok (.putfield 22, 3) := by decide +kernel
theorem d_Changes_stepOn_29 : decode prog_2_method_7_code 29 = .ok (.aload_n 0, 1) := by decide +kernel
theorem d_Changes_stepOn_30 : decode prog_2_method_7_code 30 = .ok (.getfield 22, 3) := by decide +kernel
theorem d_Changes_stepOn_33 : decode prog_2_method_7_code 33 = .ok (.iconst 1, 1) := by decide +kernel
theorem d_Changes_stepOn_34 : decode prog_2_method_7_code 34 = .ok (.isub, 1) := by decide +kernel
theorem d_Changes_stepOn_35 : decode prog_2_method_7_code 35 = .ok (.ireturn, 1) := by decide +kernel
theorem b_Changes_stepOn_0 {d : Nat} {h : am_H} {Q : am_Q} (kt : 0 < (h.1 22 5) → am_W (X_Changes_stepOn d) 9 [some (.ref 22)] [] h Q) (kf : ¬ 0 < (h.1 22 5) → am_W (X_Changes_stepOn d) 7 [some (.ref 22)] [] h Q) : am_W (X_Changes_stepOn d) 0 [some (.ref 22)] [] h Q :=
  am_aload_n d_Changes_stepOn_0 rfl (i := 0) rfl <|
    am_getI (ci := 7) (i := 5) rfl rfl rfl (Nat.le_of_ble_eq_true rfl) w_309 d_Changes_stepOn_1 <|
    am_if_gt (tgt := 9) d_Changes_stepOn_4 (by decide) kt kf
theorem b_Changes_stepOn_7 {d : Nat} {h : am_H} {Q : am_Q} (q : Q (some (.int (-1))) h) : am_W (X_Changes_stepOn d) 7 [some (.ref 22)] [] h Q :=
  am_iconst (v := (-1)) d_Changes_stepOn_7 (by decide) <|
    am_iret rfl d_Changes_stepOn_8 q
theorem b_Changes_stepOn_9 {d : Nat} {h : am_H} {Q : am_Q} (q : Q (some (.int (((am_pI (am_pI h 22 5 ((h.1 22 5) - 1)) 22 4 (((am_pI h 22 5 ((h.1 22 5) - 1)).1 22 4) + 1)).1 22 4) - 1))) (am_pI (am_pI h 22 5 ((h.1 22 5) - 1)) 22 4 (((am_pI h 22 5 ((h.1 22 5) - 1)).1 22 4) + 1))) : am_W (X_Changes_stepOn d) 9 [some (.ref 22)] [] h Q :=
  am_aload_n d_Changes_stepOn_9 rfl (i := 0) rfl <|
    am_dupR d_Changes_stepOn_10 <|
    am_getI (ci := 7) (i := 5) rfl rfl rfl (Nat.le_of_ble_eq_true rfl) w_309 d_Changes_stepOn_11 <|
    am_iconst (v := 1) d_Changes_stepOn_14 (by decide) <|
    am_isub d_Changes_stepOn_15 <|
    am_putI (ci := 7) (i := 5) rfl rfl rfl (Nat.le_of_ble_eq_true rfl) w_309 rfl rfl rfl d_Changes_stepOn_16 <|
    am_aload_n d_Changes_stepOn_19 rfl (i := 0) rfl <|
    am_dupR d_Changes_stepOn_20 <|
    am_getI (ci := 7) (i := 4) rfl rfl rfl (Nat.le_of_ble_eq_true rfl) w_308 d_Changes_stepOn_21 <|
    am_iconst (v := 1) d_Changes_stepOn_24 (by decide) <|
    am_iadd d_Changes_stepOn_25 <|
    am_putI (ci := 7) (i := 4) rfl rfl rfl (Nat.le_of_ble_eq_true rfl) w_308 rfl rfl rfl d_Changes_stepOn_26 <|
    am_aload_n d_Changes_stepOn_29 rfl (i := 0) rfl <|
    am_getI (ci := 7) (i := 4) rfl rfl rfl (Nat.le_of_ble_eq_true rfl) w_308 d_Changes_stepOn_30 <|
    am_iconst (v := 1) d_Changes_stepOn_33 (by decide) <|
    am_isub d_Changes_stepOn_34 <|
    am_iret rfl d_Changes_stepOn_35 q
theorem t_Changes_stepOn_9 {d : Nat} {h : am_H} {Q : am_Q} {res : Int32 × am_H} (e : f_Changes_stepOn_9 h = res) (q : Q (some (.int res.1)) res.2) : am_W (X_Changes_stepOn d) 9 [some (.ref 22)] [] h Q :=
  b_Changes_stepOn_9 (d := d) (q := (am_rIti (v := (((am_pI (am_pI h 22 5 ((h.1 22 5) - 1)) 22 4 (((am_pI h 22 5 ((h.1 22 5) - 1)).1 22 4) + 1)).1 22 4) - 1)) e q))
theorem t_Changes_stepOn_7 {d : Nat} {h : am_H} {Q : am_Q} {res : Int32 × am_H} (e : f_Changes_stepOn_7 h = res) (q : Q (some (.int res.1)) res.2) : am_W (X_Changes_stepOn d) 7 [some (.ref 22)] [] h Q :=
  b_Changes_stepOn_7 (d := d) (q := (am_rIti (v := (-1)) e q))
theorem t_Changes_stepOn_0 {d : Nat} {h : am_H} {Q : am_Q} {res : Int32 × am_H} (e : f_Changes_stepOn h = res) (q : Q (some (.int res.1)) res.2) : am_W (X_Changes_stepOn d) 0 [some (.ref 22)] [] h Q :=
  b_Changes_stepOn_0 (d := d) (kt := fun c => (t_Changes_stepOn_9 (am_ift e c) q)) (kf := fun c => (t_Changes_stepOn_7 (am_ife e c) q))
theorem c_Changes_stepOn {d : Nat} {h : am_H} {Q : am_Q} {res : Int32 × am_H} (e : f_Changes_stepOn h = res) (q : Q (some (.int res.1)) res.2) : m_Changes_stepOn d [.ref 22] h Q :=
  e_Changes_stepOn (t_Changes_stepOn_0 e q)
theorem d_Changes_toRedo_0 : decode prog_2_method_3_code 0 = .ok (.aload_n 0, 1) := by decide +kernel
theorem d_Changes_toRedo_1 : decode prog_2_method_3_code 1 = .ok (.getfield 26, 3) := by decide +kernel
theorem d_Changes_toRedo_4 : decode prog_2_method_3_code 4 = .ok (.ireturn, 1) := by decide +kernel
theorem b_Changes_toRedo_0 {d : Nat} {h : am_H} {Q : am_Q} (q : Q (some (.int (h.1 22 5))) h) : am_W (X_Changes_toRedo d) 0 [some (.ref 22)] [] h Q :=
  am_aload_n d_Changes_toRedo_0 rfl (i := 0) rfl <|
    am_getI (ci := 7) (i := 5) rfl rfl rfl (Nat.le_of_ble_eq_true rfl) w_309 d_Changes_toRedo_1 <|
    am_iret rfl d_Changes_toRedo_4 q
theorem t_Changes_toRedo_0 {d : Nat} {h : am_H} {Q : am_Q} {res : Int32} (e : f_Changes_toRedo h = res) (q : Q (some (.int res)) h) : am_W (X_Changes_toRedo d) 0 [some (.ref 22)] [] h Q :=
  b_Changes_toRedo_0 (d := d) (q := (am_rIt (v := (h.1 22 5)) e q))
theorem c_Changes_toRedo {d : Nat} {h : am_H} {Q : am_Q} {res : Int32} (e : f_Changes_toRedo h = res) (q : Q (some (.int res)) h) : m_Changes_toRedo d [.ref 22] h Q :=
  e_Changes_toRedo (t_Changes_toRedo_0 e q)
theorem d_Club_redo_0 : decode prog_1_method_31_code 0 = .ok (.aload_n 0, 1) := by decide +kernel
theorem d_Club_redo_1 : decode prog_1_method_31_code 1 = .ok (.getfield 62, 3) := by decide +kernel
theorem d_Club_redo_4 : decode prog_1_method_31_code 4 = .ok (.invokevirtual 305, 3) := by decide +kernel
theorem d_Club_redo_7 : decode prog_1_method_31_code 7 = .ok (.istore_n 1, 1) := by decide +kernel
theorem d_Club_redo_8 : decode prog_1_method_31_code 8 = .ok (.iload_n 1, 1) := by decide +kernel
theorem d_Club_redo_9 : decode prog_1_method_31_code 9 = .ok (.ifCond .ge 6, 3) := by decide +kernel
theorem d_Club_redo_12 : decode prog_1_method_31_code 12 = .ok (.bipush (-5), 2) := by decide +kernel
theorem d_Club_redo_14 : decode prog_1_method_31_code 14 = .ok (.ireturn, 1) := by decide +kernel
theorem d_Club_redo_15 : decode prog_1_method_31_code 15 = .ok (.aload_n 0, 1) := by decide +kernel
theorem d_Club_redo_16 : decode prog_1_method_31_code 16 = .ok (.aload_n 0, 1) := by decide +kernel
theorem d_Club_redo_17 : decode prog_1_method_31_code 17 = .ok (.getfield 62, 3) := by decide +kernel
theorem d_Club_redo_20 : decode prog_1_method_31_code 20 = .ok (.iload_n 1, 1) := by decide +kernel
theorem d_Club_redo_21 : decode prog_1_method_31_code 21 = .ok (.invokevirtual 293, 3) := by decide +kernel
theorem d_Club_redo_24 : decode prog_1_method_31_code 24 = .ok (.aload_n 0, 1) := by decide +kernel
theorem d_Club_redo_25 : decode prog_1_method_31_code 25 = .ok (.getfield 62, 3) := by decide +kernel
theorem d_Club_redo_28 : decode prog_1_method_31_code 28 = .ok (.iload_n 1, 1) := by decide +kernel
theorem d_Club_redo_29 : decode prog_1_method_31_code 29 = .ok (.invokevirtual 296, 3) := by decide +kernel
theorem d_Club_redo_32 : decode prog_1_method_31_code 32 = .ok (.aload_n 0, 1) := by decide +kernel
theorem d_Club_redo_33 : decode prog_1_method_31_code 33 = .ok (.getfield 62, 3) := by decide +kernel
theorem d_Club_redo_36 : decode prog_1_method_31_code 36 = .ok (.iload_n 1, 1) := by decide +kernel
theorem d_Club_redo_37 : decode prog_1_method_31_code 37 = .ok (.invokevirtual 308, 3) := by decide +kernel
theorem d_Club_redo_40 : decode prog_1_method_31_code 40 = .ok (.invokevirtual 125, 3) := by decide +kernel
theorem d_Club_redo_43 : decode prog_1_method_31_code 43 = .ok (.aload_n 0, 1) := by decide +kernel
theorem d_Club_redo_44 : decode prog_1_method_31_code 44 = .ok (.getfield 62, 3) := by decide +kernel
theorem d_Club_redo_47 : decode prog_1_method_31_code 47 = .ok (.invokevirtual 311, 3) := by decide +kernel
theorem d_Club_redo_50 : decode prog_1_method_31_code 50 = .ok (.ireturn, 1) := by decide +kernel
theorem b_Club_redo_0 {d : Nat} {h : am_H} {Q : am_Q} (k : m_Changes_stepOn d [.ref 22] h (fun r hh => am_W (X_Club_redo (d + 1)) 7 [some (.ref 0), none] (r.toList ++ []) hh Q)) : am_W (X_Club_redo (d + 1)) 0 [some (.ref 0), none] [] h Q :=
  am_aload_n d_Club_redo_0 rfl (i := 0) rfl <|
    am_getR (ci := 0) (i := 6) rfl rfl rfl (Nat.le_of_ble_eq_true rfl) w_368 d_Club_redo_1 <|
    am_callV (vs := []) (st := []) (k := 22) (ci := 7) rfl d_Club_redo_4 rfl rfl w_1131 w_1132 w_1133 w_91 w_1134 p_Changes_stepOn (Nat.le_of_ble_eq_true rfl) (Nat.le_of_ble_eq_true rfl) rfl k
theorem b_Club_redo_7 {d : Nat} {y0 : Int32} {h : am_H} {Q : am_Q} (kt : 0 ≤ y0 → am_W (X_Club_redo d) 15 [some (.ref 0), some (.int y0)] [] h Q) (kf : ¬ 0 ≤ y0 → am_W (X_Club_redo d) 12 [some (.ref 0), some (.int y0)] [] h Q) : am_W (X_Club_redo d) 7 [some (.ref 0), none] [.int y0] h Q :=
  am_istore_n (ls' := [some (.ref 0), some (.int y0)]) d_Club_redo_7 rfl (Nat.le_of_ble_eq_true rfl) rfl <|
    am_iload_n d_Club_redo_8 rfl (i := 1) rfl <|
    am_if_ge (tgt := 15) d_Club_redo_9 (by decide) kt kf
theorem b_Club_redo_12 {d : Nat} {x1 : Int32} {h : am_H} {Q : am_Q} (q : Q (some (.int (-5))) h) : am_W (X_Club_redo d) 12 [some (.ref 0), some (.int x1)] [] h Q :=
  am_bipush (v := (-5)) d_Club_redo_12 (by decide) <|
    am_iret rfl d_Club_redo_14 q
theorem b_Club_redo_15 {d : Nat} {x1 : Int32} {h : am_H} {Q : am_Q} (k : m_Changes_numberOf d [.ref 22, .int x1] h (fun r hh => am_W (X_Club_redo (d + 1)) 24 [some (.ref 0), some (.int x1)] (r.toList ++ [.ref 0]) hh Q)) : am_W (X_Club_redo (d + 1)) 15 [some (.ref 0), some (.int x1)] [] h Q :=
  am_aload_n d_Club_redo_15 rfl (i := 0) rfl <|
    am_aload_n d_Club_redo_16 rfl (i := 0) rfl <|
    am_getR (ci := 0) (i := 6) rfl rfl rfl (Nat.le_of_ble_eq_true rfl) w_368 d_Club_redo_17 <|
    am_iload_n d_Club_redo_20 rfl (i := 1) rfl <|
    am_callV (vs := [.int x1]) (st := [.ref 0]) (k := 22) (ci := 7) rfl d_Club_redo_21 rfl rfl w_1108 w_1109 w_1110 w_91 w_1111 p_Changes_numberOf (Nat.le_of_ble_eq_true rfl) (Nat.le_of_ble_eq_true rfl) rfl k
theorem b_Club_redo_24 {d : Nat} {x1 : Int32} {y1 : Int32} {h : am_H} {Q : am_Q} (k : m_Changes_whatOf d [.ref 22, .int x1] h (fun r hh => am_W (X_Club_redo (d + 1)) 32 [some (.ref 0), some (.int x1)] (r.toList ++ [.int y1, .ref 0]) hh Q)) : am_W (X_Club_redo (d + 1)) 24 [some (.ref 0), some (.int x1)] [.int y1, .ref 0] h Q :=
  am_aload_n d_Club_redo_24 rfl (i := 0) rfl <|
    am_getR (ci := 0) (i := 6) rfl rfl rfl (Nat.le_of_ble_eq_true rfl) w_368 d_Club_redo_25 <|
    am_iload_n d_Club_redo_28 rfl (i := 1) rfl <|
    am_callV (vs := [.int x1]) (st := [.int y1, .ref 0]) (k := 22) (ci := 7) rfl d_Club_redo_29 rfl rfl w_1115 w_1116 w_1117 w_91 w_1118 p_Changes_whatOf (Nat.le_of_ble_eq_true rfl) (Nat.le_of_ble_eq_true rfl) rfl k
theorem b_Club_redo_32 {d : Nat} {x1 : Int32} {y2 : Int32} {y1 : Int32} {h : am_H} {Q : am_Q} (k : m_Changes_becameOf d [.ref 22, .int x1] h (fun r hh => am_W (X_Club_redo (d + 1)) 40 [some (.ref 0), some (.int x1)] (r.toList ++ [.int y2, .int y1, .ref 0]) hh Q)) : am_W (X_Club_redo (d + 1)) 32 [some (.ref 0), some (.int x1)] [.int y2, .int y1, .ref 0] h Q :=
  am_aload_n d_Club_redo_32 rfl (i := 0) rfl <|
    am_getR (ci := 0) (i := 6) rfl rfl rfl (Nat.le_of_ble_eq_true rfl) w_368 d_Club_redo_33 <|
    am_iload_n d_Club_redo_36 rfl (i := 1) rfl <|
    am_callV (vs := [.int x1]) (st := [.int y2, .int y1, .ref 0]) (k := 22) (ci := 7) rfl d_Club_redo_37 rfl rfl w_1135 w_1136 w_1137 w_91 w_1138 p_Changes_becameOf (Nat.le_of_ble_eq_true rfl) (Nat.le_of_ble_eq_true rfl) rfl k
theorem b_Club_redo_40 {d : Nat} {x1 : Int32} {y3 : Int32} {y2 : Int32} {y1 : Int32} {h : am_H} {Q : am_Q} (k : m_Club_alter d [.ref 0, .int y1, .int y2, .int y3] h (fun r hh => am_W (X_Club_redo (d + 1)) 43 [some (.ref 0), some (.int x1)] (r.toList ++ []) hh Q)) : am_W (X_Club_redo (d + 1)) 40 [some (.ref 0), some (.int x1)] [.int y3, .int y2, .int y1, .ref 0] h Q :=
  am_callV (vs := [.int y1, .int y2, .int y3]) (st := []) (k := 0) (ci := 0) rfl d_Club_redo_40 rfl rfl w_496 w_498 w_3 w_83 w_499 p_Club_alter (Nat.le_of_ble_eq_true rfl) (Nat.le_of_ble_eq_true rfl) rfl k
theorem b_Club_redo_43 {d : Nat} {x1 : Int32} {h : am_H} {Q : am_Q} (k : m_Changes_toRedo d [.ref 22] h (fun r hh => am_W (X_Club_redo (d + 1)) 50 [some (.ref 0), some (.int x1)] (r.toList ++ []) hh Q)) : am_W (X_Club_redo (d + 1)) 43 [some (.ref 0), some (.int x1)] [] h Q :=
  am_aload_n d_Club_redo_43 rfl (i := 0) rfl <|
    am_getR (ci := 0) (i := 6) rfl rfl rfl (Nat.le_of_ble_eq_true rfl) w_368 d_Club_redo_44 <|
    am_callV (vs := []) (st := []) (k := 22) (ci := 7) rfl d_Club_redo_47 rfl rfl w_1139 w_1140 w_1141 w_91 w_1142 p_Changes_toRedo (Nat.le_of_ble_eq_true rfl) (Nat.le_of_ble_eq_true rfl) rfl k
theorem b_Club_redo_50 {d : Nat} {x1 : Int32} {y0 : Int32} {h : am_H} {Q : am_Q} (q : Q (some (.int y0)) h) : am_W (X_Club_redo d) 50 [some (.ref 0), some (.int x1)] [.int y0] h Q :=
  am_iret rfl d_Club_redo_50 q
theorem t_Club_redo_50 {d : Nat} {x1 : Int32} {y0 : Int32} {h : am_H} {Q : am_Q} {res : Int32 × am_H} (e : f_Club_redo_50 h y0 = some res) (q : Q (some (.int res.1)) res.2) : am_W (X_Club_redo (d + 4)) 50 [some (.ref 0), some (.int x1)] [.int y0] h Q :=
  b_Club_redo_50 (d := (d + 4)) (q := (am_rIpi (v := y0) e q))
theorem t_Club_redo_43 {d : Nat} {x1 : Int32} {h : am_H} {Q : am_Q} {res : Int32 × am_H} (e : f_Club_redo_43 h = some res) (q : Q (some (.int res.1)) res.2) : am_W (X_Club_redo (d + 4)) 43 [some (.ref 0), some (.int x1)] [] h Q :=
  b_Club_redo_43 (d := (d + 3)) (k := c_Changes_toRedo (d := d + 3) rfl (t_Club_redo_50 e q))
theorem t_Club_redo_40 {d : Nat} {x1 : Int32} {y3 : Int32} {y2 : Int32} {y1 : Int32} {h : am_H} {Q : am_Q} {res : Int32 × am_H} (e : f_Club_redo_40 h y3 y2 y1 = some res) (q : Q (some (.int res.1)) res.2) : am_W (X_Club_redo (d + 4)) 40 [some (.ref 0), some (.int x1)] [.int y3, .int y2, .int y1, .ref 0] h Q :=
  (am_bd e).elim fun p hp => b_Club_redo_40 (d := (d + 3)) (k := c_Club_alter (d := d) hp.1 (t_Club_redo_43 hp.2 q))
theorem t_Club_redo_32 {d : Nat} {x1 : Int32} {y2 : Int32} {y1 : Int32} {h : am_H} {Q : am_Q} {res : Int32 × am_H} (e : f_Club_redo_32 h x1 y2 y1 = some res) (q : Q (some (.int res.1)) res.2) : am_W (X_Club_redo (d + 4)) 32 [some (.ref 0), some (.int x1)] [.int y2, .int y1, .ref 0] h Q :=
  (am_bd e).elim fun p hp => b_Club_redo_32 (d := (d + 3)) (k := c_Changes_becameOf (d := d + 2) hp.1 (t_Club_redo_40 hp.2 q))
theorem t_Club_redo_24 {d : Nat} {x1 : Int32} {y1 : Int32} {h : am_H} {Q : am_Q} {res : Int32 × am_H} (e : f_Club_redo_24 h x1 y1 = some res) (q : Q (some (.int res.1)) res.2) : am_W (X_Club_redo (d + 4)) 24 [some (.ref 0), some (.int x1)] [.int y1, .ref 0] h Q :=
  (am_bd e).elim fun p hp => b_Club_redo_24 (d := (d + 3)) (k := c_Changes_whatOf (d := d + 2) hp.1 (t_Club_redo_32 hp.2 q))
theorem t_Club_redo_15 {d : Nat} {x1 : Int32} {h : am_H} {Q : am_Q} {res : Int32 × am_H} (e : f_Club_redo_15 h x1 = some res) (q : Q (some (.int res.1)) res.2) : am_W (X_Club_redo (d + 4)) 15 [some (.ref 0), some (.int x1)] [] h Q :=
  (am_bd e).elim fun p hp => b_Club_redo_15 (d := (d + 3)) (k := c_Changes_numberOf (d := d + 2) hp.1 (t_Club_redo_24 hp.2 q))
theorem t_Club_redo_12 {d : Nat} {x1 : Int32} {h : am_H} {Q : am_Q} {res : Int32 × am_H} (e : f_Club_redo_12 h = some res) (q : Q (some (.int res.1)) res.2) : am_W (X_Club_redo (d + 4)) 12 [some (.ref 0), some (.int x1)] [] h Q :=
  b_Club_redo_12 (d := (d + 4)) (q := (am_rIpi (v := (-5)) e q))
theorem t_Club_redo_7 {d : Nat} {y0 : Int32} {h : am_H} {Q : am_Q} {res : Int32 × am_H} (e : f_Club_redo_7 h y0 = some res) (q : Q (some (.int res.1)) res.2) : am_W (X_Club_redo (d + 4)) 7 [some (.ref 0), none] [.int y0] h Q :=
  b_Club_redo_7 (d := (d + 4)) (kt := fun c => (t_Club_redo_15 (am_ift e c) q)) (kf := fun c => (t_Club_redo_12 (am_ife e c) q))
theorem t_Club_redo_0 {d : Nat} {h : am_H} {Q : am_Q} {res : Int32 × am_H} (e : f_Club_redo h = some res) (q : Q (some (.int res.1)) res.2) : am_W (X_Club_redo (d + 4)) 0 [some (.ref 0), none] [] h Q :=
  b_Club_redo_0 (d := (d + 3)) (k := c_Changes_stepOn (d := d + 3) rfl (t_Club_redo_7 e q))
theorem c_Club_redo {d : Nat} {h : am_H} {Q : am_Q} {res : Int32 × am_H} (e : f_Club_redo h = some res) (q : Q (some (.int res.1)) res.2) : m_Club_redo (d + 4) [.ref 0] h Q :=
  e_Club_redo (t_Club_redo_0 e q)
