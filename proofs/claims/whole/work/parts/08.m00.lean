theorem d_Hole_addClub_0 : decode prog_5_method_13_code 0 = .ok (.aload_n 0, 1) := by decide +kernel
theorem d_Hole_addClub_1 : decode prog_5_method_13_code 1 = .ok (.getfield 24, 3) := by decide +kernel
theorem d_Hole_addClub_4 : decode prog_5_method_13_code 4 = .ok (.istore 4, 2) := by decide +kernel
theorem d_Hole_addClub_6 : decode prog_5_method_13_code 6 = .ok (.iload 4, 2) := by decide +kernel
theorem d_Hole_addClub_8 : decode prog_5_method_13_code 8 = .ok (.ifCond .lt 10, 3) := by decide +kernel
theorem d_Hole_addClub_11 : decode prog_5_method_13_code 11 = .ok (.iload 4, 2) := by decide +kernel
theorem d_Hole_addClub_13 : decode prog_5_method_13_code 13 = .ok (.bipush 6, 2) := by decide +kernel
theorem d_Hole_addClub_15 : decode prog_5_method_13_code 15 = .ok (.if_icmp .lt 6, 3) := by decide +kernel
theorem d_Hole_addClub_18 : decode prog_5_method_13_code 18 = .ok (.bipush (-3), 2) := by decide +kernel
theorem d_Hole_addClub_20 : decode prog_5_method_13_code 20 = .ok (.ireturn, 1) := by decide +kernel
theorem d_Hole_addClub_21 : decode prog_5_method_13_code 21 = .ok (.aload_n 0, 1) := by decide +kernel
theorem d_Hole_addClub_22 : decode prog_5_method_13_code 22 = .ok (.getfield 15, 3) := by decide +kernel
theorem d_Hole_addClub_25 : decode prog_5_method_13_code 25 = .ok (.iload 4, 2) := by decide +kernel
theorem d_Hole_addClub_27 : decode prog_5_method_13_code 27 = .ok (.iload_n 1, 1) := by decide +kernel
theorem d_Hole_addClub_28 : decode prog_5_method_13_code 28 = .ok (.iastore, 1) := by decide +kernel
theorem d_Hole_addClub_29 : decode prog_5_method_13_code 29 = .ok (.aload_n 0, 1) := by decide +kernel
theorem d_Hole_addClub_30 : decode prog_5_method_13_code 30 = .ok (.getfield 18, 3) := by decide +kernel
theorem d_Hole_addClub_33 : decode prog_5_method_13_code 33 = .ok (.iload 4, 2) := by decide +kernel
theorem d_Hole_addClub_35 : decode prog_5_method_13_code 35 = .ok (.iload_n 2, 1) := by decide +kernel
theorem d_Hole_addClub_36 : decode prog_5_method_13_code 36 = .ok (.iastore, 1) := by decide +kernel
theorem d_Hole_addClub_37 : decode prog_5_method_13_code 37 = .ok (.aload_n 0, 1) := by decide +kernel
theorem d_Hole_addClub_38 : decode prog_5_method_13_code 38 = .ok (.getfield 21, 3) := by decide +kernel
theorem d_Hole_addClub_41 : decode prog_5_method_13_code 41 = .ok (.iload 4, 2) := by decide +kernel
theorem d_Hole_addClub_43 : decode prog_5_method_13_code 43 = .ok (.iload_n 3, 1) := by decide +kernel
theorem d_Hole_addClub_44 : decode prog_5_method_13_code 44 = .ok (.iastore, 1) := by decide +kernel
theorem d_Hole_addClub_45 : decode prog_5_method_13_code 45 = .ok (.aload_n 0, 1) := by decide +kernel
theorem d_Hole_addClub_46 : decode prog_5_method_13_code 46 = .ok (.iload 4, 2) := by decide +kernel
theorem d_Hole_addClub_48 : decode prog_5_method_13_code 48 = .ok (.iconst 1, 1) := by decide +kernel
theorem d_Hole_addClub_49 : decode prog_5_method_13_code 49 = .ok (.iadd, 1) := by decide +kernel
theorem d_Hole_addClub_50 : decode prog_5_method_13_code 50 = .ok (.putfield 24, 3) := by decide +kernel
theorem d_Hole_addClub_53 : decode prog_5_method_13_code 53 = .ok (.iload 4, 2) := by decide +kernel
theorem d_Hole_addClub_55 : decode prog_5_method_13_code 55 = .ok (.ireturn, 1) := by decide +kernel
theorem b_Hole_addClub_0 {d : Nat} {x1 : Int32} {x2 : Int32} {x3 : Int32} {h : am_H} {Q : am_Q} (kt : (h.1 1 4) < 0 → am_W (X_Hole_addClub d) 18 [some (.ref 1), some (.int x1), some (.int x2), some (.int x3), some (.int (h.1 1 4))] [] h Q) (kf : ¬ (h.1 1 4) < 0 → am_W (X_Hole_addClub d) 11 [some (.ref 1), some (.int x1), some (.int x2), some (.int x3), some (.int (h.1 1 4))] [] h Q) : am_W (X_Hole_addClub d) 0 [some (.ref 1), some (.int x1), some (.int x2), some (.int x3), none] [] h Q :=
  am_aload_n d_Hole_addClub_0 rfl (i := 0) rfl <|
    am_getI (ci := 1) (i := 4) rfl rfl rfl (Nat.le_of_ble_eq_true rfl) w_126 d_Hole_addClub_1 <|
    am_istore (ls' := [some (.ref 1), some (.int x1), some (.int x2), some (.int x3), some (.int (h.1 1 4))]) d_Hole_addClub_4 (Nat.le_of_ble_eq_true rfl) rfl <|
    am_iload d_Hole_addClub_6 rfl <|
    am_if_lt (tgt := 18) d_Hole_addClub_8 (by decide) kt kf
theorem b_Hole_addClub_11 {d : Nat} {x1 : Int32} {x2 : Int32} {x3 : Int32} {x4 : Int32} {h : am_H} {Q : am_Q} (kt : x4 < 6 → am_W (X_Hole_addClub d) 21 [some (.ref 1), some (.int x1), some (.int x2), some (.int x3), some (.int x4)] [] h Q) (kf : ¬ x4 < 6 → am_W (X_Hole_addClub d) 18 [some (.ref 1), some (.int x1), some (.int x2), some (.int x3), some (.int x4)] [] h Q) : am_W (X_Hole_addClub d) 11 [some (.ref 1), some (.int x1), some (.int x2), some (.int x3), some (.int x4)] [] h Q :=
  am_iload d_Hole_addClub_11 rfl <|
    am_bipush (v := 6) d_Hole_addClub_13 (by decide) <|
    am_icmp_lt (tgt := 21) d_Hole_addClub_15 (by decide) kt kf
theorem b_Hole_addClub_18 {d : Nat} {x1 : Int32} {x2 : Int32} {x3 : Int32} {x4 : Int32} {h : am_H} {Q : am_Q} (q : Q (some (.int (-3))) h) : am_W (X_Hole_addClub d) 18 [some (.ref 1), some (.int x1), some (.int x2), some (.int x3), some (.int x4)] [] h Q :=
  am_bipush (v := (-3)) d_Hole_addClub_18 (by decide) <|
    am_iret rfl d_Hole_addClub_20 q
theorem b_Hole_addClub_21 {d : Nat} {x1 : Int32} {x2 : Int32} {x3 : Int32} {x4 : Int32} {h : am_H} {Q : am_Q} (q0 : vp_in x4 6) (q : Q (some (.int x4)) (am_pI (am_pI (am_pI (am_pI h 3 x4.toNatClampNeg x1) 4 x4.toNatClampNeg x2) 5 x4.toNatClampNeg x3) 1 4 (x4 + 1))) : am_W (X_Hole_addClub d) 21 [some (.ref 1), some (.int x1), some (.int x2), some (.int x3), some (.int x4)] [] h Q :=
  am_aload_n d_Hole_addClub_21 rfl (i := 0) rfl <|
    am_getR (ci := 1) (i := 1) rfl rfl rfl (Nat.le_of_ble_eq_true rfl) w_123 d_Hole_addClub_22 <|
    am_iload d_Hole_addClub_25 rfl <|
    am_iload_n d_Hole_addClub_27 rfl (i := 1) rfl <|
    am_iast rfl q0 d_Hole_addClub_28 <|
    am_aload_n d_Hole_addClub_29 rfl (i := 0) rfl <|
    am_getR (ci := 1) (i := 2) rfl rfl rfl (Nat.le_of_ble_eq_true rfl) w_124 d_Hole_addClub_30 <|
    am_iload d_Hole_addClub_33 rfl <|
    am_iload_n d_Hole_addClub_35 rfl (i := 2) rfl <|
    am_iast rfl q0 d_Hole_addClub_36 <|
    am_aload_n d_Hole_addClub_37 rfl (i := 0) rfl <|
    am_getR (ci := 1) (i := 3) rfl rfl rfl (Nat.le_of_ble_eq_true rfl) w_125 d_Hole_addClub_38 <|
    am_iload d_Hole_addClub_41 rfl <|
    am_iload_n d_Hole_addClub_43 rfl (i := 3) rfl <|
    am_iast rfl q0 d_Hole_addClub_44 <|
    am_aload_n d_Hole_addClub_45 rfl (i := 0) rfl <|
    am_iload d_Hole_addClub_46 rfl <|
    am_iconst (v := 1) d_Hole_addClub_48 (by decide) <|
    am_iadd d_Hole_addClub_49 <|
    am_putI (ci := 1) (i := 4) rfl rfl rfl (Nat.le_of_ble_eq_true rfl) w_126 rfl rfl rfl d_Hole_addClub_50 <|
    am_iload d_Hole_addClub_53 rfl <|
    am_iret rfl d_Hole_addClub_55 q
theorem t_Hole_addClub_18 {d : Nat} {x1 : Int32} {x2 : Int32} {x3 : Int32} {x4 : Int32} {h : am_H} {Q : am_Q} {res : Int32 × am_H} (e : f_Hole_addClub_18 h = some res) (q : Q (some (.int res.1)) res.2) : am_W (X_Hole_addClub d) 18 [some (.ref 1), some (.int x1), some (.int x2), some (.int x3), some (.int x4)] [] h Q :=
  b_Hole_addClub_18 (d := d) (q := (am_rIpi (v := (-3)) e q))
theorem t_Hole_addClub_21 {d : Nat} {x1 : Int32} {x2 : Int32} {x3 : Int32} {x4 : Int32} {h : am_H} {Q : am_Q} {res : Int32 × am_H} (e : f_Hole_addClub_21 h x1 x2 x3 x4 = some res) (q : Q (some (.int res.1)) res.2) : am_W (X_Hole_addClub d) 21 [some (.ref 1), some (.int x1), some (.int x2), some (.int x3), some (.int x4)] [] h Q :=
  b_Hole_addClub_21 (d := d) (q0 := (am_okv (am_gd e))) (q := (am_rIpi (v := x4) (am_ga e) q))
theorem t_Hole_addClub_11 {d : Nat} {x1 : Int32} {x2 : Int32} {x3 : Int32} {x4 : Int32} {h : am_H} {Q : am_Q} {res : Int32 × am_H} (e : f_Hole_addClub_11 h x1 x2 x3 x4 = some res) (q : Q (some (.int res.1)) res.2) : am_W (X_Hole_addClub d) 11 [some (.ref 1), some (.int x1), some (.int x2), some (.int x3), some (.int x4)] [] h Q :=
  b_Hole_addClub_11 (d := d) (kt := fun c => (t_Hole_addClub_21 (am_ift e c) q)) (kf := fun c => (t_Hole_addClub_18 (am_ife e c) q))
theorem t_Hole_addClub_0 {d : Nat} {x1 : Int32} {x2 : Int32} {x3 : Int32} {h : am_H} {Q : am_Q} {res : Int32 × am_H} (e : f_Hole_addClub h x1 x2 x3 = some res) (q : Q (some (.int res.1)) res.2) : am_W (X_Hole_addClub d) 0 [some (.ref 1), some (.int x1), some (.int x2), some (.int x3), none] [] h Q :=
  b_Hole_addClub_0 (d := d) (kt := fun c => (t_Hole_addClub_18 (am_ift e c) q)) (kf := fun c => (t_Hole_addClub_11 (am_ife e c) q))
theorem c_Hole_addClub {d : Nat} {x1 : Int32} {x2 : Int32} {x3 : Int32} {h : am_H} {Q : am_Q} {res : Int32 × am_H} (e : f_Hole_addClub h x1 x2 x3 = some res) (q : Q (some (.int res.1)) res.2) : m_Hole_addClub d [.ref 1, .int x1, .int x2, .int x3] h Q :=
  e_Hole_addClub (t_Hole_addClub_0 e q)
theorem d_Hole_isWithin_0 : decode prog_5_method_4_code 0 = .ok (.iload_n 0, 1) := by decide +kernel
theorem d_Hole_isWithin_1 : decode prog_5_method_4_code 1 = .ok (.ifCond .lt 41, 3) := by decide +kernel
theorem d_Hole_isWithin_4 : decode prog_5_method_4_code 4 = .ok (.iload_n 0, 1) := by decide +kernel
theorem d_Hole_isWithin_5 : decode prog_5_method_4_code 5 = .ok (.getstatic 53, 3) := by decide +kernel
theorem d_Hole_isWithin_8 : decode prog_5_method_4_code 8 = .ok (.arraylength, 1) := by decide +kernel
theorem d_Hole_isWithin_9 : decode prog_5_method_4_code 9 = .ok (.if_icmp .ge 33, 3) := by decide +kernel
theorem d_Hole_isWithin_12 : decode prog_5_method_4_code 12 = .ok (.iload_n 0, 1) := by decide +kernel
theorem d_Hole_isWithin_13 : decode prog_5_method_4_code 13 = .ok (.getstatic 56, 3) := by decide +kernel
theorem d_Hole_isWithin_16 : decode prog_5_method_4_code 16 = .ok (.arraylength, 1) := by decide +kernel
theorem d_Hole_isWithin_17 : decode prog_5_method_4_code 17 = .ok (.if_icmp .ge 25, 3) := by decide +kernel
theorem d_Hole_isWithin_20 : decode prog_5_method_4_code 20 = .ok (.iload_n 1, 1) := by decide +kernel
theorem d_Hole_isWithin_21 : decode prog_5_method_4_code 21 = .ok (.getstatic 56, 3) := by decide +kernel
theorem d_Hole_isWithin_24 : decode prog_5_method_4_code 24 = .ok (.iload_n 0, 1) := by decide +kernel
theorem d_Hole_isWithin_25 : decode prog_5_method_4_code 25 = .ok (.iaload, 1) := by decide +kernel
theorem d_Hole_isWithin_26 : decode prog_5_method_4_code 26 = .ok (.if_icmp .lt 16, 3) := by decide +kernel
theorem d_Hole_isWithin_29 : decode prog_5_method_4_code 29 = .ok (.iload_n 1, 1) := by decide +kernel
theorem d_Hole_isWithin_30 : decode prog_5_method_4_code 30 = .ok (.getstatic 53, 3) := by decide +kernel
theorem d_Hole_isWithin_33 : decode prog_5_method_4_code 33 = .ok (.iload_n 0, 1) := by decide +kernel
theorem d_Hole_isWithin_34 : decode prog_5_method_4_code 34 = .ok (.iaload, 1) := by decide +kernel
theorem d_Hole_isWithin_35 : decode prog_5_method_4_code 35 = .ok (.if_icmp .gt 7, 3) := by decide +kernel
theorem d_Hole_isWithin_38 : decode prog_5_method_4_code 38 = .ok (.iconst 1, 1) := by decide +kernel
theorem d_Hole_isWithin_39 : decode prog_5_method_4_code 39 = .ok (.goto 4, 3) := by decide +kernel
theorem d_Hole_isWithin_42 : decode prog_5_method_4_code 42 = .ok (.iconst 0, 1) := by decide +kernel
theorem d_Hole_isWithin_43 : decode prog_5_method_4_code 43 = .ok (.ireturn, 1) := by decide +kernel
theorem b_Hole_isWithin_0 {d : Nat} {x0 : Int32} {x1 : Int32} {h : am_H} {Q : am_Q} (kt : x0 < 0 → am_W (X_Hole_isWithin d) 42 [some (.int x0), some (.int x1)] [] h Q) (kf : ¬ x0 < 0 → am_W (X_Hole_isWithin d) 4 [some (.int x0), some (.int x1)] [] h Q) : am_W (X_Hole_isWithin d) 0 [some (.int x0), some (.int x1)] [] h Q :=
  am_iload_n d_Hole_isWithin_0 rfl (i := 0) rfl <|
    am_if_lt (tgt := 42) d_Hole_isWithin_1 (by decide) kt kf
theorem b_Hole_isWithin_4 {d : Nat} {x0 : Int32} {x1 : Int32} {h : am_H} {Q : am_Q} (kt : 9 ≤ x0 → am_W (X_Hole_isWithin d) 42 [some (.int x0), some (.int x1)] [] h Q) (kf : ¬ 9 ≤ x0 → am_W (X_Hole_isWithin d) 12 [some (.int x0), some (.int x1)] [] h Q) : am_W (X_Hole_isWithin d) 4 [some (.int x0), some (.int x1)] [] h Q :=
  am_iload_n d_Hole_isWithin_4 rfl (i := 0) rfl <|
    am_gets tb_MOST w_400 d_Hole_isWithin_5 <|
    am_tlen (v := 9) tb_MOST (by decide) d_Hole_isWithin_8 <|
    am_icmp_ge (tgt := 42) d_Hole_isWithin_9 (by decide) kt kf
theorem b_Hole_isWithin_12 {d : Nat} {x0 : Int32} {x1 : Int32} {h : am_H} {Q : am_Q} (kt : 9 ≤ x0 → am_W (X_Hole_isWithin d) 42 [some (.int x0), some (.int x1)] [] h Q) (kf : ¬ 9 ≤ x0 → am_W (X_Hole_isWithin d) 20 [some (.int x0), some (.int x1)] [] h Q) : am_W (X_Hole_isWithin d) 12 [some (.int x0), some (.int x1)] [] h Q :=
  am_iload_n d_Hole_isWithin_12 rfl (i := 0) rfl <|
    am_gets tb_LEAST w_402 d_Hole_isWithin_13 <|
    am_tlen (v := 9) tb_LEAST (by decide) d_Hole_isWithin_16 <|
    am_icmp_ge (tgt := 42) d_Hole_isWithin_17 (by decide) kt kf
theorem b_Hole_isWithin_20 {d : Nat} {x0 : Int32} {x1 : Int32} {h : am_H} {Q : am_Q} (q0 : vp_in x0 9) (kt : x1 < (tv_LEAST x0) → am_W (X_Hole_isWithin d) 42 [some (.int x0), some (.int x1)] [] h Q) (kf : ¬ x1 < (tv_LEAST x0) → am_W (X_Hole_isWithin d) 29 [some (.int x0), some (.int x1)] [] h Q) : am_W (X_Hole_isWithin d) 20 [some (.int x0), some (.int x1)] [] h Q :=
  am_iload_n d_Hole_isWithin_20 rfl (i := 1) rfl <|
    am_gets tb_LEAST w_402 d_Hole_isWithin_21 <|
    am_iload_n d_Hole_isWithin_24 rfl (i := 0) rfl <|
    am_ti (v := tv_LEAST x0) tb_LEAST q0 (tv_LEAST_ok q0) d_Hole_isWithin_25 <|
    am_icmp_lt (tgt := 42) d_Hole_isWithin_26 (by decide) kt kf
theorem b_Hole_isWithin_29 {d : Nat} {x0 : Int32} {x1 : Int32} {h : am_H} {Q : am_Q} (q0 : vp_in x0 9) (kt : (tv_MOST x0) < x1 → am_W (X_Hole_isWithin d) 42 [some (.int x0), some (.int x1)] [] h Q) (kf : ¬ (tv_MOST x0) < x1 → am_W (X_Hole_isWithin d) 38 [some (.int x0), some (.int x1)] [] h Q) : am_W (X_Hole_isWithin d) 29 [some (.int x0), some (.int x1)] [] h Q :=
  am_iload_n d_Hole_isWithin_29 rfl (i := 1) rfl <|
    am_gets tb_MOST w_400 d_Hole_isWithin_30 <|
    am_iload_n d_Hole_isWithin_33 rfl (i := 0) rfl <|
    am_ti (v := tv_MOST x0) tb_MOST q0 (tv_MOST_ok q0) d_Hole_isWithin_34 <|
    am_icmp_gt (tgt := 42) d_Hole_isWithin_35 (by decide) kt kf
theorem b_Hole_isWithin_38 {d : Nat} {x0 : Int32} {x1 : Int32} {h : am_H} {Q : am_Q} (q : Q (some (.int 1)) h) : am_W (X_Hole_isWithin d) 38 [some (.int x0), some (.int x1)] [] h Q :=
  am_iconst (v := 1) d_Hole_isWithin_38 (by decide) <|
    am_goto (tgt := 43) d_Hole_isWithin_39 (by decide) <|
    am_zret (ty := .boolean) rfl (by decide) d_Hole_isWithin_43 q
theorem b_Hole_isWithin_42 {d : Nat} {x0 : Int32} {x1 : Int32} {h : am_H} {Q : am_Q} (q : Q (some (.int 0)) h) : am_W (X_Hole_isWithin d) 42 [some (.int x0), some (.int x1)] [] h Q :=
  am_iconst (v := 0) d_Hole_isWithin_42 (by decide) <|
    am_zret (ty := .boolean) rfl (by decide) d_Hole_isWithin_43 q
theorem t_Hole_isWithin_42 {d : Nat} {x0 : Int32} {x1 : Int32} {h : am_H} {Q : am_Q} {res : Bool} (e : f_Hole_isWithin_42 = some res) (q : Q (some (.int (am_b res))) h) : am_W (X_Hole_isWithin d) 42 [some (.int x0), some (.int x1)] [] h Q :=
  b_Hole_isWithin_42 (d := d) (q := (am_rZp (v := false) e q))
theorem t_Hole_isWithin_38 {d : Nat} {x0 : Int32} {x1 : Int32} {h : am_H} {Q : am_Q} {res : Bool} (e : f_Hole_isWithin_38 = some res) (q : Q (some (.int (am_b res))) h) : am_W (X_Hole_isWithin d) 38 [some (.int x0), some (.int x1)] [] h Q :=
  b_Hole_isWithin_38 (d := d) (q := (am_rZp (v := true) e q))
theorem t_Hole_isWithin_29 {d : Nat} {x0 : Int32} {x1 : Int32} {h : am_H} {Q : am_Q} {res : Bool} (e : f_Hole_isWithin_29 x0 x1 = some res) (q : Q (some (.int (am_b res))) h) : am_W (X_Hole_isWithin d) 29 [some (.int x0), some (.int x1)] [] h Q :=
  b_Hole_isWithin_29 (d := d) (q0 := (am_okv (am_gd e))) (kt := fun c => (t_Hole_isWithin_42 (am_ift (am_ga e) c) q)) (kf := fun c => (t_Hole_isWithin_38 (am_ife (am_ga e) c) q))
theorem t_Hole_isWithin_20 {d : Nat} {x0 : Int32} {x1 : Int32} {h : am_H} {Q : am_Q} {res : Bool} (e : f_Hole_isWithin_20 x0 x1 = some res) (q : Q (some (.int (am_b res))) h) : am_W (X_Hole_isWithin d) 20 [some (.int x0), some (.int x1)] [] h Q :=
  b_Hole_isWithin_20 (d := d) (q0 := (am_okv (am_gd e))) (kt := fun c => (t_Hole_isWithin_42 (am_ift (am_ga e) c) q)) (kf := fun c => (t_Hole_isWithin_29 (am_ife (am_ga e) c) q))
theorem t_Hole_isWithin_12 {d : Nat} {x0 : Int32} {x1 : Int32} {h : am_H} {Q : am_Q} {res : Bool} (e : f_Hole_isWithin_12 x0 x1 = some res) (q : Q (some (.int (am_b res))) h) : am_W (X_Hole_isWithin d) 12 [some (.int x0), some (.int x1)] [] h Q :=
  b_Hole_isWithin_12 (d := d) (kt := fun c => (t_Hole_isWithin_42 (am_ift e c) q)) (kf := fun c => (t_Hole_isWithin_20 (am_ife e c) q))
theorem t_Hole_isWithin_4 {d : Nat} {x0 : Int32} {x1 : Int32} {h : am_H} {Q : am_Q} {res : Bool} (e : f_Hole_isWithin_4 x0 x1 = some res) (q : Q (some (.int (am_b res))) h) : am_W (X_Hole_isWithin d) 4 [some (.int x0), some (.int x1)] [] h Q :=
  b_Hole_isWithin_4 (d := d) (kt := fun c => (t_Hole_isWithin_42 (am_ift e c) q)) (kf := fun c => (t_Hole_isWithin_12 (am_ife e c) q))
theorem t_Hole_isWithin_0 {d : Nat} {x0 : Int32} {x1 : Int32} {h : am_H} {Q : am_Q} {res : Bool} (e : f_Hole_isWithin x0 x1 = some res) (q : Q (some (.int (am_b res))) h) : am_W (X_Hole_isWithin d) 0 [some (.int x0), some (.int x1)] [] h Q :=
  b_Hole_isWithin_0 (d := d) (kt := fun c => (t_Hole_isWithin_42 (am_ift e c) q)) (kf := fun c => (t_Hole_isWithin_4 (am_ife e c) q))
theorem c_Hole_isWithin {d : Nat} {x0 : Int32} {x1 : Int32} {h : am_H} {Q : am_Q} {res : Bool} (e : f_Hole_isWithin x0 x1 = some res) (q : Q (some (.int (am_b res))) h) : m_Hole_isWithin d [.int x0, .int x1] h Q :=
  e_Hole_isWithin (t_Hole_isWithin_0 e q)
theorem d_Hole_isClub_0 : decode prog_5_method_3_code 0 = .ok (.iconst 1, 1) := by decide +kernel
theorem d_Hole_isClub_1 : decode prog_5_method_3_code 1 = .ok (.iload_n 0, 1) := by decide +kernel
theorem d_Hole_isClub_2 : decode prog_5_method_3_code 2 = .ok (.invokestatic 49, 3) := by decide +kernel
theorem d_Hole_isClub_5 : decode prog_5_method_3_code 5 = .ok (.ifCond .eq 23, 3) := by decide +kernel
theorem d_Hole_isClub_8 : decode prog_5_method_3_code 8 = .ok (.iconst 2, 1) := by decide +kernel
theorem d_Hole_isClub_9 : decode prog_5_method_3_code 9 = .ok (.iload_n 1, 1) := by decide +kernel
theorem d_Hole_isClub_10 : decode prog_5_method_3_code 10 = .ok (.invokestatic 49, 3) := by decide +kernel
theorem d_Hole_isClub_13 : decode prog_5_method_3_code 13 = .ok (.ifCond .eq 15, 3) := by decide +kernel
theorem d_Hole_isClub_16 : decode prog_5_method_3_code 16 = .ok (.iconst 3, 1) := by decide +kernel
theorem d_Hole_isClub_17 : decode prog_5_method_3_code 17 = .ok (.iload_n 2, 1) := by decide +kernel
theorem d_Hole_isClub_18 : decode prog_5_method_3_code 18 = .ok (.invokestatic 49, 3) := by decide +kernel
theorem d_Hole_isClub_21 : decode prog_5_method_3_code 21 = .ok (.ifCond .eq 7, 3) := by decide +kernel
theorem d_Hole_isClub_24 : decode prog_5_method_3_code 24 = .ok (.iconst 1, 1) := by decide +kernel
theorem d_Hole_isClub_25 : decode prog_5_method_3_code 25 = .ok (.goto 4, 3) := by decide +kernel
theorem d_Hole_isClub_28 : decode prog_5_method_3_code 28 = .ok (.iconst 0, 1) := by decide +kernel
theorem d_Hole_isClub_29 : decode prog_5_method_3_code 29 = .ok (.ireturn, 1) := by decide +kernel
theorem b_Hole_isClub_0 {d : Nat} {x0 : Int32} {x1 : Int32} {x2 : Int32} {h : am_H} {Q : am_Q} (k : m_Hole_isWithin d [.int 1, .int x0] h (fun r hh => am_W (X_Hole_isClub (d + 1)) 5 [some (.int x0), some (.int x1), some (.int x2)] (r.toList ++ []) hh Q)) : am_W (X_Hole_isClub (d + 1)) 0 [some (.int x0), some (.int x1), some (.int x2)] [] h Q :=
  am_iconst (v := 1) d_Hole_isClub_0 (by decide) <|
    am_iload_n d_Hole_isClub_1 rfl (i := 0) rfl <|
    am_callS (vs := [.int 1, .int x0]) (st := []) rfl d_Hole_isClub_2 w_397 w_398 w_84 w_399 p_Hole_isWithin (Nat.le_of_ble_eq_true rfl) (Nat.le_of_ble_eq_true rfl) rfl k
theorem b_Hole_isClub_5 {d : Nat} {x0 : Int32} {x1 : Int32} {x2 : Int32} {y0 : Bool} {h : am_H} {Q : am_Q} (kt : (am_b y0) = 0 → am_W (X_Hole_isClub d) 28 [some (.int x0), some (.int x1), some (.int x2)] [] h Q) (kf : ¬ (am_b y0) = 0 → am_W (X_Hole_isClub d) 8 [some (.int x0), some (.int x1), some (.int x2)] [] h Q) : am_W (X_Hole_isClub d) 5 [some (.int x0), some (.int x1), some (.int x2)] [.int (am_b y0)] h Q :=
  am_if_eq (tgt := 28) d_Hole_isClub_5 (by decide) kt kf
theorem b_Hole_isClub_8 {d : Nat} {x0 : Int32} {x1 : Int32} {x2 : Int32} {h : am_H} {Q : am_Q} (k : m_Hole_isWithin d [.int 2, .int x1] h (fun r hh => am_W (X_Hole_isClub (d + 1)) 13 [some (.int x0), some (.int x1), some (.int x2)] (r.toList ++ []) hh Q)) : am_W (X_Hole_isClub (d + 1)) 8 [some (.int x0), some (.int x1), some (.int x2)] [] h Q :=
  am_iconst (v := 2) d_Hole_isClub_8 (by decide) <|
    am_iload_n d_Hole_isClub_9 rfl (i := 1) rfl <|
    am_callS (vs := [.int 2, .int x1]) (st := []) rfl d_Hole_isClub_10 w_397 w_398 w_84 w_399 p_Hole_isWithin (Nat.le_of_ble_eq_true rfl) (Nat.le_of_ble_eq_true rfl) rfl k
theorem b_Hole_isClub_13 {d : Nat} {x0 : Int32} {x1 : Int32} {x2 : Int32} {y0 : Bool} {h : am_H} {Q : am_Q} (kt : (am_b y0) = 0 → am_W (X_Hole_isClub d) 28 [some (.int x0), some (.int x1), some (.int x2)] [] h Q) (kf : ¬ (am_b y0) = 0 → am_W (X_Hole_isClub d) 16 [some (.int x0), some (.int x1), some (.int x2)] [] h Q) : am_W (X_Hole_isClub d) 13 [some (.int x0), some (.int x1), some (.int x2)] [.int (am_b y0)] h Q :=
  am_if_eq (tgt := 28) d_Hole_isClub_13 (by decide) kt kf
theorem b_Hole_isClub_16 {d : Nat} {x0 : Int32} {x1 : Int32} {x2 : Int32} {h : am_H} {Q : am_Q} (k : m_Hole_isWithin d [.int 3, .int x2] h (fun r hh => am_W (X_Hole_isClub (d + 1)) 21 [some (.int x0), some (.int x1), some (.int x2)] (r.toList ++ []) hh Q)) : am_W (X_Hole_isClub (d + 1)) 16 [some (.int x0), some (.int x1), some (.int x2)] [] h Q :=
  am_iconst (v := 3) d_Hole_isClub_16 (by decide) <|
    am_iload_n d_Hole_isClub_17 rfl (i := 2) rfl <|
    am_callS (vs := [.int 3, .int x2]) (st := []) rfl d_Hole_isClub_18 w_397 w_398 w_84 w_399 p_Hole_isWithin (Nat.le_of_ble_eq_true rfl) (Nat.le_of_ble_eq_true rfl) rfl k
theorem b_Hole_isClub_21 {d : Nat} {x0 : Int32} {x1 : Int32} {x2 : Int32} {y0 : Bool} {h : am_H} {Q : am_Q} (kt : (am_b y0) = 0 → am_W (X_Hole_isClub d) 28 [some (.int x0), some (.int x1), some (.int x2)] [] h Q) (kf : ¬ (am_b y0) = 0 → am_W (X_Hole_isClub d) 24 [some (.int x0), some (.int x1), some (.int x2)] [] h Q) : am_W (X_Hole_isClub d) 21 [some (.int x0), some (.int x1), some (.int x2)] [.int (am_b y0)] h Q :=
  am_if_eq (tgt := 28) d_Hole_isClub_21 (by decide) kt kf
theorem b_Hole_isClub_24 {d : Nat} {x0 : Int32} {x1 : Int32} {x2 : Int32} {h : am_H} {Q : am_Q} (q : Q (some (.int 1)) h) : am_W (X_Hole_isClub d) 24 [some (.int x0), some (.int x1), some (.int x2)] [] h Q :=
  am_iconst (v := 1) d_Hole_isClub_24 (by decide) <|
    am_goto (tgt := 29) d_Hole_isClub_25 (by decide) <|
    am_zret (ty := .boolean) rfl (by decide) d_Hole_isClub_29 q
theorem b_Hole_isClub_28 {d : Nat} {x0 : Int32} {x1 : Int32} {x2 : Int32} {h : am_H} {Q : am_Q} (q : Q (some (.int 0)) h) : am_W (X_Hole_isClub d) 28 [some (.int x0), some (.int x1), some (.int x2)] [] h Q :=
  am_iconst (v := 0) d_Hole_isClub_28 (by decide) <|
    am_zret (ty := .boolean) rfl (by decide) d_Hole_isClub_29 q
theorem t_Hole_isClub_28 {d : Nat} {x0 : Int32} {x1 : Int32} {x2 : Int32} {h : am_H} {Q : am_Q} {res : Bool} (e : f_Hole_isClub_28 = some res) (q : Q (some (.int (am_b res))) h) : am_W (X_Hole_isClub (d + 1)) 28 [some (.int x0), some (.int x1), some (.int x2)] [] h Q :=
  b_Hole_isClub_28 (d := (d + 1)) (q := (am_rZp (v := false) e q))
theorem t_Hole_isClub_24 {d : Nat} {x0 : Int32} {x1 : Int32} {x2 : Int32} {h : am_H} {Q : am_Q} {res : Bool} (e : f_Hole_isClub_24 = some res) (q : Q (some (.int (am_b res))) h) : am_W (X_Hole_isClub (d + 1)) 24 [some (.int x0), some (.int x1), some (.int x2)] [] h Q :=
  b_Hole_isClub_24 (d := (d + 1)) (q := (am_rZp (v := true) e q))
theorem t_Hole_isClub_21 {d : Nat} {x0 : Int32} {x1 : Int32} {x2 : Int32} {y0 : Bool} {h : am_H} {Q : am_Q} {res : Bool} (e : f_Hole_isClub_21 y0 = some res) (q : Q (some (.int (am_b res))) h) : am_W (X_Hole_isClub (d + 1)) 21 [some (.int x0), some (.int x1), some (.int x2)] [.int (am_b y0)] h Q :=
  b_Hole_isClub_21 (d := (d + 1)) (kt := fun c => (t_Hole_isClub_28 (am_iff e (am_bz c)) q)) (kf := fun c => (t_Hole_isClub_24 (am_ift e (am_bn c)) q))
theorem t_Hole_isClub_16 {d : Nat} {x0 : Int32} {x1 : Int32} {x2 : Int32} {h : am_H} {Q : am_Q} {res : Bool} (e : f_Hole_isClub_16 x2 = some res) (q : Q (some (.int (am_b res))) h) : am_W (X_Hole_isClub (d + 1)) 16 [some (.int x0), some (.int x1), some (.int x2)] [] h Q :=
  (am_bd e).elim fun p hp => b_Hole_isClub_16 (d := d) (k := c_Hole_isWithin (d := d) hp.1 (t_Hole_isClub_21 hp.2 q))
theorem t_Hole_isClub_13 {d : Nat} {x0 : Int32} {x1 : Int32} {x2 : Int32} {y0 : Bool} {h : am_H} {Q : am_Q} {res : Bool} (e : f_Hole_isClub_13 x2 y0 = some res) (q : Q (some (.int (am_b res))) h) : am_W (X_Hole_isClub (d + 1)) 13 [some (.int x0), some (.int x1), some (.int x2)] [.int (am_b y0)] h Q :=
  b_Hole_isClub_13 (d := (d + 1)) (kt := fun c => (t_Hole_isClub_28 (am_iff e (am_bz c)) q)) (kf := fun c => (t_Hole_isClub_16 (am_ift e (am_bn c)) q))
theorem t_Hole_isClub_8 {d : Nat} {x0 : Int32} {x1 : Int32} {x2 : Int32} {h : am_H} {Q : am_Q} {res : Bool} (e : f_Hole_isClub_8 x1 x2 = some res) (q : Q (some (.int (am_b res))) h) : am_W (X_Hole_isClub (d + 1)) 8 [some (.int x0), some (.int x1), some (.int x2)] [] h Q :=
  (am_bd e).elim fun p hp => b_Hole_isClub_8 (d := d) (k := c_Hole_isWithin (d := d) hp.1 (t_Hole_isClub_13 hp.2 q))
theorem t_Hole_isClub_5 {d : Nat} {x0 : Int32} {x1 : Int32} {x2 : Int32} {y0 : Bool} {h : am_H} {Q : am_Q} {res : Bool} (e : f_Hole_isClub_5 x1 x2 y0 = some res) (q : Q (some (.int (am_b res))) h) : am_W (X_Hole_isClub (d + 1)) 5 [some (.int x0), some (.int x1), some (.int x2)] [.int (am_b y0)] h Q :=
  b_Hole_isClub_5 (d := (d + 1)) (kt := fun c => (t_Hole_isClub_28 (am_iff e (am_bz c)) q)) (kf := fun c => (t_Hole_isClub_8 (am_ift e (am_bn c)) q))
theorem t_Hole_isClub_0 {d : Nat} {x0 : Int32} {x1 : Int32} {x2 : Int32} {h : am_H} {Q : am_Q} {res : Bool} (e : f_Hole_isClub x0 x1 x2 = some res) (q : Q (some (.int (am_b res))) h) : am_W (X_Hole_isClub (d + 1)) 0 [some (.int x0), some (.int x1), some (.int x2)] [] h Q :=
  (am_bd e).elim fun p hp => b_Hole_isClub_0 (d := d) (k := c_Hole_isWithin (d := d) hp.1 (t_Hole_isClub_5 hp.2 q))
theorem c_Hole_isClub {d : Nat} {x0 : Int32} {x1 : Int32} {x2 : Int32} {h : am_H} {Q : am_Q} {res : Bool} (e : f_Hole_isClub x0 x1 x2 = some res) (q : Q (some (.int (am_b res))) h) : m_Hole_isClub (d + 1) [.int x0, .int x1, .int x2] h Q :=
  e_Hole_isClub (t_Hole_isClub_0 e q)
theorem d_Hole_isFull_0 : decode prog_5_method_11_code 0 = .ok (.aload_n 0, 1) := by decide +kernel
theorem d_Hole_isFull_1 : decode prog_5_method_11_code 1 = .ok (.getfield 24, 3) := by decide +kernel
theorem d_Hole_isFull_4 : decode prog_5_method_11_code 4 = .ok (.bipush 6, 2) := by decide +kernel
theorem d_Hole_isFull_6 : decode prog_5_method_11_code 6 = .ok (.if_icmp .lt 7, 3) := by decide +kernel
theorem d_Hole_isFull_9 : decode prog_5_method_11_code 9 = .ok (.iconst 1, 1) := by decide +kernel
theorem d_Hole_isFull_10 : decode prog_5_method_11_code 10 = .ok (.goto 4, 3) := by decide +kernel
theorem d_Hole_isFull_13 : decode prog_5_method_11_code 13 = .ok (.iconst 0, 1) := by decide +kernel
theorem d_Hole_isFull_14 : decode prog_5_method_11_code 14 = .ok (.ireturn, 1) := by decide +kernel
theorem b_Hole_isFull_0 {d : Nat} {h : am_H} {Q : am_Q} (kt : (h.1 1 4) < 6 → am_W (X_Hole_isFull d) 13 [some (.ref 1)] [] h Q) (kf : ¬ (h.1 1 4) < 6 → am_W (X_Hole_isFull d) 9 [some (.ref 1)] [] h Q) : am_W (X_Hole_isFull d) 0 [some (.ref 1)] [] h Q :=
  am_aload_n d_Hole_isFull_0 rfl (i := 0) rfl <|
    am_getI (ci := 1) (i := 4) rfl rfl rfl (Nat.le_of_ble_eq_true rfl) w_126 d_Hole_isFull_1 <|
    am_bipush (v := 6) d_Hole_isFull_4 (by decide) <|
    am_icmp_lt (tgt := 13) d_Hole_isFull_6 (by decide) kt kf
theorem b_Hole_isFull_9 {d : Nat} {h : am_H} {Q : am_Q} (q : Q (some (.int 1)) h) : am_W (X_Hole_isFull d) 9 [some (.ref 1)] [] h Q :=
  am_iconst (v := 1) d_Hole_isFull_9 (by decide) <|
    am_goto (tgt := 14) d_Hole_isFull_10 (by decide) <|
    am_zret (ty := .boolean) rfl (by decide) d_Hole_isFull_14 q
theorem b_Hole_isFull_13 {d : Nat} {h : am_H} {Q : am_Q} (q : Q (some (.int 0)) h) : am_W (X_Hole_isFull d) 13 [some (.ref 1)] [] h Q :=
  am_iconst (v := 0) d_Hole_isFull_13 (by decide) <|
    am_zret (ty := .boolean) rfl (by decide) d_Hole_isFull_14 q
theorem t_Hole_isFull_13 {d : Nat} {h : am_H} {Q : am_Q} {res : Bool} (e : f_Hole_isFull_13 h = res) (q : Q (some (.int (am_b res))) h) : am_W (X_Hole_isFull d) 13 [some (.ref 1)] [] h Q :=
  b_Hole_isFull_13 (d := d) (q := (am_rZt (v := false) e q))
theorem t_Hole_isFull_9 {d : Nat} {h : am_H} {Q : am_Q} {res : Bool} (e : f_Hole_isFull_9 h = res) (q : Q (some (.int (am_b res))) h) : am_W (X_Hole_isFull d) 9 [some (.ref 1)] [] h Q :=
  b_Hole_isFull_9 (d := d) (q := (am_rZt (v := true) e q))
theorem t_Hole_isFull_0 {d : Nat} {h : am_H} {Q : am_Q} {res : Bool} (e : f_Hole_isFull h = res) (q : Q (some (.int (am_b res))) h) : am_W (X_Hole_isFull d) 0 [some (.ref 1)] [] h Q :=
  b_Hole_isFull_0 (d := d) (kt := fun c => (t_Hole_isFull_13 (am_ift e c) q)) (kf := fun c => (t_Hole_isFull_9 (am_ife e c) q))
theorem c_Hole_isFull {d : Nat} {h : am_H} {Q : am_Q} {res : Bool} (e : f_Hole_isFull h = res) (q : Q (some (.int (am_b res))) h) : m_Hole_isFull d [.ref 1] h Q :=
  e_Hole_isFull (t_Hole_isFull_0 e q)
theorem d_Arrays_fill_AJJ_0 : decode prog_19_method_101_code 0 = .ok (.iconst 0, 1) := by decide +kernel
theorem d_Arrays_fill_AJJ_1 : decode prog_19_method_101_code 1 = .ok (.istore_n 3, 1) := by decide +kernel
theorem d_Arrays_fill_AJJ_2 : decode prog_19_method_101_code 2 = .ok (.aload_n 0, 1) := by decide +kernel
theorem d_Arrays_fill_AJJ_3 : decode prog_19_method_101_code 3 = .ok (.arraylength, 1) := by decide +kernel
theorem d_Arrays_fill_AJJ_4 : decode prog_19_method_101_code 4 = .ok (.istore 4, 2) := by decide +kernel
theorem d_Arrays_fill_AJJ_6 : decode prog_19_method_101_code 6 = .ok (.iload_n 3, 1) := by decide +kernel
theorem d_Arrays_fill_AJJ_7 : decode prog_19_method_101_code 7 = .ok (.iload 4, 2) := by decide +kernel
theorem d_Arrays_fill_AJJ_9 : decode prog_19_method_101_code 9 = .ok (.if_icmp .ge 13, 3) := by decide +kernel
theorem d_Arrays_fill_AJJ_12 : decode prog_19_method_101_code 12 = .ok (.aload_n 0, 1) := by decide +kernel
theorem d_Arrays_fill_AJJ_13 : decode prog_19_method_101_code 13 = .ok (.iload_n 3, 1) := by decide +kernel
theorem d_Arrays_fill_AJJ_14 : decode prog_19_method_101_code 14 = .ok (.lload_n 1, 1) := by decide +kernel
theorem d_Arrays_fill_AJJ_15 : decode prog_19_method_101_code 15 = .ok (.lastore, 1) := by decide +kernel
theorem d_Arrays_fill_AJJ_16 : decode prog_19_method_101_code 16 = .ok (.iinc 3 1, 3) := by decide +kernel
theorem d_Arrays_fill_AJJ_19 : decode prog_19_method_101_code 19 = .ok (.goto (-13), 3) := by decide +kernel
theorem d_Arrays_fill_AJJ_22 : decode prog_19_method_101_code 22 = .ok (.return_, 1) := by decide +kernel
theorem b_Arrays_fill_AJJ_0 {d : Nat} {a0 : Nat} {na0 : Nat} {x1 : Int64} {h : am_H} {Q : am_Q} (sa0 : shX[a0]? = some (.inr (1, na0, []))) (k : am_W (X_Arrays_fill_AJJ d) 6 [some (.ref a0), some (.long x1), none, some (.int 0), some (.int (Int32.ofNat na0))] [] h Q) : am_W (X_Arrays_fill_AJJ d) 0 [some (.ref a0), some (.long x1), none, none, none] [] h Q :=
  am_iconst (v := 0) d_Arrays_fill_AJJ_0 (by decide) <|
    am_istore_n (ls' := [some (.ref a0), some (.long x1), none, some (.int 0), none]) d_Arrays_fill_AJJ_1 rfl (Nat.le_of_ble_eq_true rfl) rfl <|
    am_aload_n d_Arrays_fill_AJJ_2 rfl (i := 0) rfl <|
    am_alenL sa0 rfl d_Arrays_fill_AJJ_3 <|
    am_istore (ls' := [some (.ref a0), some (.long x1), none, some (.int 0), some (.int (Int32.ofNat na0))]) d_Arrays_fill_AJJ_4 (Nat.le_of_ble_eq_true rfl) rfl <|
    k
theorem b_Arrays_fill_AJJ_6 {d : Nat} {a0 : Nat} {na0 : Nat} {x1 : Int64} {x3 : Int32} {x4 : Int32} {h : am_H} {Q : am_Q} (sa0 : shX[a0]? = some (.inr (1, na0, []))) (kt : x4 ≤ x3 → am_W (X_Arrays_fill_AJJ d) 22 [some (.ref a0), some (.long x1), none, some (.int x3), some (.int x4)] [] h Q) (kf : ¬ x4 ≤ x3 → am_W (X_Arrays_fill_AJJ d) 12 [some (.ref a0), some (.long x1), none, some (.int x3), some (.int x4)] [] h Q) : am_W (X_Arrays_fill_AJJ d) 6 [some (.ref a0), some (.long x1), none, some (.int x3), some (.int x4)] [] h Q :=
  am_iload_n d_Arrays_fill_AJJ_6 rfl (i := 3) rfl <|
    am_iload d_Arrays_fill_AJJ_7 rfl <|
    am_icmp_ge (tgt := 22) d_Arrays_fill_AJJ_9 (by decide) kt kf
theorem b_Arrays_fill_AJJ_12 {d : Nat} {a0 : Nat} {na0 : Nat} {x1 : Int64} {x3 : Int32} {x4 : Int32} {h : am_H} {Q : am_Q} (sa0 : shX[a0]? = some (.inr (1, na0, []))) (q0 : vp_in x3 na0) (k : am_W (X_Arrays_fill_AJJ d) 6 [some (.ref a0), some (.long x1), none, some (.int (x3 + 1)), some (.int x4)] [] (am_pL h a0 x3.toNatClampNeg x1) Q) : am_W (X_Arrays_fill_AJJ d) 12 [some (.ref a0), some (.long x1), none, some (.int x3), some (.int x4)] [] h Q :=
  am_aload_n d_Arrays_fill_AJJ_12 rfl (i := 0) rfl <|
    am_iload_n d_Arrays_fill_AJJ_13 rfl (i := 3) rfl <|
    am_lload_n d_Arrays_fill_AJJ_14 rfl (i := 1) rfl <|
    am_last sa0 q0 d_Arrays_fill_AJJ_15 <|
    am_iinc (v := (x3 + 1)) (ls' := [some (.ref a0), some (.long x1), none, some (.int (x3 + 1)), some (.int x4)]) d_Arrays_fill_AJJ_16 rfl rfl (Nat.le_of_ble_eq_true rfl) rfl <|
    am_goto (tgt := 6) d_Arrays_fill_AJJ_19 (by decide) k
theorem b_Arrays_fill_AJJ_22 {d : Nat} {a0 : Nat} {na0 : Nat} {x1 : Int64} {x3 : Int32} {x4 : Int32} {h : am_H} {Q : am_Q} (sa0 : shX[a0]? = some (.inr (1, na0, []))) (q : Q none h) : am_W (X_Arrays_fill_AJJ d) 22 [some (.ref a0), some (.long x1), none, some (.int x3), some (.int x4)] [] h Q :=
  am_vret rfl d_Arrays_fill_AJJ_22 q
theorem t_Arrays_fill_AJJ_22 {d : Nat} {a0 : Nat} {na0 : Nat} {x1 : Int64} {x3 : Int32} {x4 : Int32} {h : am_H} {Q : am_Q} {res : am_H} (sa0 : shX[a0]? = some (.inr (1, na0, []))) (e : f_Arrays_fill_AJJ_22 h = some res) (q : Q none res) : am_W (X_Arrays_fill_AJJ d) 22 [some (.ref a0), some (.long x1), none, some (.int x3), some (.int x4)] [] h Q :=
  b_Arrays_fill_AJJ_22 (d := d) (sa0 := sa0) (q := (am_rVpi e q))
theorem t_Arrays_fill_AJJ_12 {d : Nat} {k6 : am_H → Nat → Nat → Int64 → Int32 → Int32 → Option (am_H)} {a0 : Nat} {na0 : Nat} {x1 : Int64} {x3 : Int32} {x4 : Int32} {h : am_H} {Q : am_Q} {res : am_H} (hk6 : ∀ (a0 : Nat) (na0 : Nat) (x1 : Int64) (x3 : Int32) (x4 : Int32) (h : am_H), shX[a0]? = some (.inr (1, na0, [])) → k6 h a0 na0 x1 x3 x4 = some res → am_W (X_Arrays_fill_AJJ d) 6 [some (.ref a0), some (.long x1), none, some (.int x3), some (.int x4)] [] h Q) (sa0 : shX[a0]? = some (.inr (1, na0, []))) (e : f_Arrays_fill_AJJ_12 k6 h a0 na0 x1 x3 x4 = some res) (q : Q none res) : am_W (X_Arrays_fill_AJJ d) 12 [some (.ref a0), some (.long x1), none, some (.int x3), some (.int x4)] [] h Q :=
  b_Arrays_fill_AJJ_12 (d := d) (q0 := (am_okv (am_gd e))) (sa0 := sa0) (k := (hk6 _ _ _ _ _ _ sa0 (am_ga e)))
theorem t_Arrays_fill_AJJ_6 {d : Nat} {k6 : am_H → Nat → Nat → Int64 → Int32 → Int32 → Option (am_H)} {a0 : Nat} {na0 : Nat} {x1 : Int64} {x3 : Int32} {x4 : Int32} {h : am_H} {Q : am_Q} {res : am_H} (hk6 : ∀ (a0 : Nat) (na0 : Nat) (x1 : Int64) (x3 : Int32) (x4 : Int32) (h : am_H), shX[a0]? = some (.inr (1, na0, [])) → k6 h a0 na0 x1 x3 x4 = some res → am_W (X_Arrays_fill_AJJ d) 6 [some (.ref a0), some (.long x1), none, some (.int x3), some (.int x4)] [] h Q) (sa0 : shX[a0]? = some (.inr (1, na0, []))) (e : f_Arrays_fill_AJJ_6 k6 h a0 na0 x1 x3 x4 = some res) (q : Q none res) : am_W (X_Arrays_fill_AJJ d) 6 [some (.ref a0), some (.long x1), none, some (.int x3), some (.int x4)] [] h Q :=
  b_Arrays_fill_AJJ_6 (d := d) (sa0 := sa0) (kt := fun c => (t_Arrays_fill_AJJ_22 sa0 (am_ift e c) q)) (kf := fun c => (t_Arrays_fill_AJJ_12 hk6 sa0 (am_ife e c) q))
theorem t_Arrays_fill_AJJ_6_l {d : Nat} {Q : am_Q} {res : am_H} (q : Q none res) : ∀ (n : Nat) (a0 : Nat) (na0 : Nat) (x1 : Int64) (x3 : Int32) (x4 : Int32) (h : am_H), shX[a0]? = some (.inr (1, na0, [])) → f_Arrays_fill_AJJ_6_l n h a0 na0 x1 x3 x4 = some res → am_W (X_Arrays_fill_AJJ d) 6 [some (.ref a0), some (.long x1), none, some (.int x3), some (.int x4)] [] h Q := by
  intro n
  induction n with
  | zero => intro a0 na0 x1 x3 x4 h sa0 e; exact am_nn e
  | succ n ih => intro a0 na0 x1 x3 x4 h sa0 e; exact t_Arrays_fill_AJJ_6 (fun a0 na0 x1 x3 x4 h sa0 e => ih a0 na0 x1 x3 x4 h sa0 e) sa0 e q
theorem t_Arrays_fill_AJJ_0 {d : Nat} {a0 : Nat} {na0 : Nat} {x1 : Int64} {h : am_H} {Q : am_Q} {res : am_H} (sa0 : shX[a0]? = some (.inr (1, na0, []))) (e : f_Arrays_fill_AJJ h a0 na0 x1 = some res) (q : Q none res) : am_W (X_Arrays_fill_AJJ d) 0 [some (.ref a0), some (.long x1), none, none, none] [] h Q :=
  b_Arrays_fill_AJJ_0 (d := d) (sa0 := sa0) (k := (t_Arrays_fill_AJJ_6_l q am_fu _ _ _ _ _ _ sa0 e))
theorem c_Arrays_fill_AJJ {d : Nat} {a0 : Nat} {na0 : Nat} {x1 : Int64} {h : am_H} {Q : am_Q} {res : am_H} (sa0 : shX[a0]? = some (.inr (1, na0, []))) (e : f_Arrays_fill_AJJ h a0 na0 x1 = some res) (q : Q none res) : m_Arrays_fill_AJJ d [.ref a0, .long x1] h Q :=
  e_Arrays_fill_AJJ (t_Arrays_fill_AJJ_0 sa0 e q)
theorem d_Reck_forgetBest_0 : decode prog_7_method_3_code 0 = .ok (.aload_n 0, 1) := by decide +kernel
theorem d_Reck_forgetBest_1 : decode prog_7_method_3_code 1 = .ok (.getfield 27, 3) := by decide +kernel
theorem d_Reck_forgetBest_4 : decode prog_7_method_3_code 4 = .ok (.ifCond .eq 16, 3) := by decide +kernel
theorem d_Reck_forgetBest_7 : decode prog_7_method_3_code 7 = .ok (.aload_n 0, 1) := by decide +kernel
theorem d_Reck_forgetBest_8 : decode prog_7_method_3_code 8 = .ok (.getfield 11, 3) := by decide +kernel
theorem d_Reck_forgetBest_11 : decode prog_7_method_3_code 11 = .ok (.lconst 0, 1) := by decide +kernel
theorem d_Reck_forgetBest_12 : decode prog_7_method_3_code 12 = .ok (.invokestatic 71, 3) := by decide +kernel
theorem d_Reck_forgetBest_15 : decode prog_7_method_3_code 15 = .ok (.aload_n 0, 1) := by decide +kernel
theorem d_Reck_forgetBest_16 : decode prog_7_method_3_code 16 = .ok (.iconst 0, 1) := by decide +kernel
theorem d_Reck_forgetBest_17 : decode prog_7_method_3_code 17 = .ok (.putfield 27, 3) := by decide +kernel
theorem d_Reck_forgetBest_20 : decode prog_7_method_3_code 20 = .ok (.return_, 1) := by decide +kernel
theorem b_Reck_forgetBest_0 {d : Nat} {h : am_H} {Q : am_Q} (kt : (h.1 12 6) = 0 → am_W (X_Reck_forgetBest d) 20 [some (.ref 12)] [] h Q) (kf : ¬ (h.1 12 6) = 0 → am_W (X_Reck_forgetBest d) 7 [some (.ref 12)] [] h Q) : am_W (X_Reck_forgetBest d) 0 [some (.ref 12)] [] h Q :=
  am_aload_n d_Reck_forgetBest_0 rfl (i := 0) rfl <|
    am_getI (ci := 3) (i := 6) rfl rfl rfl (Nat.le_of_ble_eq_true rfl) w_200 d_Reck_forgetBest_1 <|
    am_if_eq (tgt := 20) d_Reck_forgetBest_4 (by decide) kt kf
theorem b_Reck_forgetBest_7 {d : Nat} {h : am_H} {Q : am_Q} (k : m_Arrays_fill_AJJ d [.ref 13, .long 0] h (fun r hh => am_W (X_Reck_forgetBest (d + 1)) 15 [some (.ref 12)] (r.toList ++ []) hh Q)) : am_W (X_Reck_forgetBest (d + 1)) 7 [some (.ref 12)] [] h Q :=
  am_aload_n d_Reck_forgetBest_7 rfl (i := 0) rfl <|
    am_getR (ci := 3) (i := 2) rfl rfl rfl (Nat.le_of_ble_eq_true rfl) w_196 d_Reck_forgetBest_8 <|
    am_lconst (v := 0) d_Reck_forgetBest_11 (by decide) <|
    am_callS (vs := [.ref 13, .long 0]) (st := []) rfl d_Reck_forgetBest_12 w_416 w_417 w_85 w_418 p_Arrays_fill_AJJ (Nat.le_of_ble_eq_true rfl) (Nat.le_of_ble_eq_true rfl) rfl k
theorem b_Reck_forgetBest_15 {d : Nat} {h : am_H} {Q : am_Q} (q : Q none (am_pI h 12 6 0)) : am_W (X_Reck_forgetBest d) 15 [some (.ref 12)] [] h Q :=
  am_aload_n d_Reck_forgetBest_15 rfl (i := 0) rfl <|
    am_iconst (v := 0) d_Reck_forgetBest_16 (by decide) <|
    am_putI (ci := 3) (i := 6) rfl rfl rfl (Nat.le_of_ble_eq_true rfl) w_200 rfl (by decide) (by decide) d_Reck_forgetBest_17 <|
    am_vret rfl d_Reck_forgetBest_20 q
theorem b_Reck_forgetBest_20 {d : Nat} {h : am_H} {Q : am_Q} (q : Q none h) : am_W (X_Reck_forgetBest d) 20 [some (.ref 12)] [] h Q :=
  am_vret rfl d_Reck_forgetBest_20 q
theorem t_Reck_forgetBest_20 {d : Nat} {h : am_H} {Q : am_Q} {res : am_H} (e : f_Reck_forgetBest_20 h = some res) (q : Q none res) : am_W (X_Reck_forgetBest (d + 1)) 20 [some (.ref 12)] [] h Q :=
  b_Reck_forgetBest_20 (d := (d + 1)) (q := (am_rVpi e q))
theorem t_Reck_forgetBest_15 {d : Nat} {h : am_H} {Q : am_Q} {res : am_H} (e : f_Reck_forgetBest_15 h = some res) (q : Q none res) : am_W (X_Reck_forgetBest (d + 1)) 15 [some (.ref 12)] [] h Q :=
  b_Reck_forgetBest_15 (d := (d + 1)) (q := (am_rVpi e q))
theorem t_Reck_forgetBest_7 {d : Nat} {h : am_H} {Q : am_Q} {res : am_H} (e : f_Reck_forgetBest_7 h = some res) (q : Q none res) : am_W (X_Reck_forgetBest (d + 1)) 7 [some (.ref 12)] [] h Q :=
  (am_bd e).elim fun p hp => b_Reck_forgetBest_7 (d := d) (k := c_Arrays_fill_AJJ (d := d) rfl hp.1 (t_Reck_forgetBest_15 hp.2 q))
theorem t_Reck_forgetBest_0 {d : Nat} {h : am_H} {Q : am_Q} {res : am_H} (e : f_Reck_forgetBest h = some res) (q : Q none res) : am_W (X_Reck_forgetBest (d + 1)) 0 [some (.ref 12)] [] h Q :=
  b_Reck_forgetBest_0 (d := (d + 1)) (kt := fun c => (t_Reck_forgetBest_20 (am_ift e c) q)) (kf := fun c => (t_Reck_forgetBest_7 (am_ife e c) q))
theorem c_Reck_forgetBest {d : Nat} {h : am_H} {Q : am_Q} {res : am_H} (e : f_Reck_forgetBest h = some res) (q : Q none res) : m_Reck_forgetBest (d + 1) [.ref 12] h Q :=
  e_Reck_forgetBest (t_Reck_forgetBest_0 e q)
theorem d_Reck_forgetLawful_0 : decode prog_7_method_4_code 0 = .ok (.aload_n 0, 1) := by decide +kernel
theorem d_Reck_forgetLawful_1 : decode prog_7_method_4_code 1 = .ok (.iconst 0, 1) := by decide +kernel
theorem d_Reck_forgetLawful_2 : decode prog_7_method_4_code 2 = .ok (.putfield 34, 3) := by decide +kernel
theorem d_Reck_forgetLawful_5 : decode prog_7_method_4_code 5 = .ok (.aload_n 0, 1) := by decide +kernel
theorem d_Reck_forgetLawful_6 : decode prog_7_method_4_code 6 = .ok (.getfield 31, 3) := by decide +kernel
theorem d_Reck_forgetLawful_9 : decode prog_7_method_4_code 9 = .ok (.ifCond .eq 16, 3) := by decide +kernel
theorem d_Reck_forgetLawful_12 : decode prog_7_method_4_code 12 = .ok (.aload_n 0, 1) := by decide +kernel
theorem d_Reck_forgetLawful_13 : decode prog_7_method_4_code 13 = .ok (.getfield 17, 3) := by decide +kernel
theorem d_Reck_forgetLawful_16 : decode prog_7_method_4_code 16 = .ok (.lconst 0, 1) := by decide +kernel
theorem d_Reck_forgetLawful_17 : decode prog_7_method_4_code 17 = .ok (.invokestatic 71, 3) := by decide +kernel
theorem d_Reck_forgetLawful_20 : decode prog_7_method_4_code 20 = .ok (.aload_n 0, 1) := by decide +kernel
theorem d_Reck_forgetLawful_21 : decode prog_7_method_4_code 21 = .ok (.iconst 0, 1) := by decide +kernel
theorem d_Reck_forgetLawful_22 : decode prog_7_method_4_code 22 = .ok (.putfield 31, 3) := by decide +kernel
theorem d_Reck_forgetLawful_25 : decode prog_7_method_4_code 25 = .ok (.return_, 1) := by decide +kernel
theorem b_Reck_forgetLawful_0 {d : Nat} {h : am_H} {Q : am_Q} (kt : ((am_pI h 12 8 0).1 12 7) = 0 → am_W (X_Reck_forgetLawful d) 25 [some (.ref 12)] [] (am_pI h 12 8 0) Q) (kf : ¬ ((am_pI h 12 8 0).1 12 7) = 0 → am_W (X_Reck_forgetLawful d) 12 [some (.ref 12)] [] (am_pI h 12 8 0) Q) : am_W (X_Reck_forgetLawful d) 0 [some (.ref 12)] [] h Q :=
  am_aload_n d_Reck_forgetLawful_0 rfl (i := 0) rfl <|
    am_iconst (v := 0) d_Reck_forgetLawful_1 (by decide) <|
    am_putI (ci := 3) (i := 8) rfl rfl rfl (Nat.le_of_ble_eq_true rfl) w_202 rfl (by decide) (by decide) d_Reck_forgetLawful_2 <|
    am_aload_n d_Reck_forgetLawful_5 rfl (i := 0) rfl <|
    am_getI (ci := 3) (i := 7) rfl rfl rfl (Nat.le_of_ble_eq_true rfl) w_201 d_Reck_forgetLawful_6 <|
    am_if_eq (tgt := 25) d_Reck_forgetLawful_9 (by decide) kt kf
theorem b_Reck_forgetLawful_12 {d : Nat} {h : am_H} {Q : am_Q} (k : m_Arrays_fill_AJJ d [.ref 14, .long 0] h (fun r hh => am_W (X_Reck_forgetLawful (d + 1)) 20 [some (.ref 12)] (r.toList ++ []) hh Q)) : am_W (X_Reck_forgetLawful (d + 1)) 12 [some (.ref 12)] [] h Q :=
  am_aload_n d_Reck_forgetLawful_12 rfl (i := 0) rfl <|
    am_getR (ci := 3) (i := 3) rfl rfl rfl (Nat.le_of_ble_eq_true rfl) w_197 d_Reck_forgetLawful_13 <|
    am_lconst (v := 0) d_Reck_forgetLawful_16 (by decide) <|
    am_callS (vs := [.ref 14, .long 0]) (st := []) rfl d_Reck_forgetLawful_17 w_416 w_417 w_85 w_418 p_Arrays_fill_AJJ (Nat.le_of_ble_eq_true rfl) (Nat.le_of_ble_eq_true rfl) rfl k
theorem b_Reck_forgetLawful_20 {d : Nat} {h : am_H} {Q : am_Q} (q : Q none (am_pI h 12 7 0)) : am_W (X_Reck_forgetLawful d) 20 [some (.ref 12)] [] h Q :=
  am_aload_n d_Reck_forgetLawful_20 rfl (i := 0) rfl <|
    am_iconst (v := 0) d_Reck_forgetLawful_21 (by decide) <|
    am_putI (ci := 3) (i := 7) rfl rfl rfl (Nat.le_of_ble_eq_true rfl) w_201 rfl (by decide) (by decide) d_Reck_forgetLawful_22 <|
    am_vret rfl d_Reck_forgetLawful_25 q
theorem b_Reck_forgetLawful_25 {d : Nat} {h : am_H} {Q : am_Q} (q : Q none h) : am_W (X_Reck_forgetLawful d) 25 [some (.ref 12)] [] h Q :=
  am_vret rfl d_Reck_forgetLawful_25 q
theorem t_Reck_forgetLawful_25 {d : Nat} {h : am_H} {Q : am_Q} {res : am_H} (e : f_Reck_forgetLawful_25 h = some res) (q : Q none res) : am_W (X_Reck_forgetLawful (d + 1)) 25 [some (.ref 12)] [] h Q :=
  b_Reck_forgetLawful_25 (d := (d + 1)) (q := (am_rVpi e q))
theorem t_Reck_forgetLawful_20 {d : Nat} {h : am_H} {Q : am_Q} {res : am_H} (e : f_Reck_forgetLawful_20 h = some res) (q : Q none res) : am_W (X_Reck_forgetLawful (d + 1)) 20 [some (.ref 12)] [] h Q :=
  b_Reck_forgetLawful_20 (d := (d + 1)) (q := (am_rVpi e q))
theorem t_Reck_forgetLawful_12 {d : Nat} {h : am_H} {Q : am_Q} {res : am_H} (e : f_Reck_forgetLawful_12 h = some res) (q : Q none res) : am_W (X_Reck_forgetLawful (d + 1)) 12 [some (.ref 12)] [] h Q :=
  (am_bd e).elim fun p hp => b_Reck_forgetLawful_12 (d := d) (k := c_Arrays_fill_AJJ (d := d) rfl hp.1 (t_Reck_forgetLawful_20 hp.2 q))
theorem t_Reck_forgetLawful_0 {d : Nat} {h : am_H} {Q : am_Q} {res : am_H} (e : f_Reck_forgetLawful h = some res) (q : Q none res) : am_W (X_Reck_forgetLawful (d + 1)) 0 [some (.ref 12)] [] h Q :=
  b_Reck_forgetLawful_0 (d := (d + 1)) (kt := fun c => (t_Reck_forgetLawful_25 (am_ift e c) q)) (kf := fun c => (t_Reck_forgetLawful_12 (am_ife e c) q))
theorem c_Reck_forgetLawful {d : Nat} {h : am_H} {Q : am_Q} {res : am_H} (e : f_Reck_forgetLawful h = some res) (q : Q none res) : m_Reck_forgetLawful (d + 1) [.ref 12] h Q :=
  e_Reck_forgetLawful (t_Reck_forgetLawful_0 e q)
theorem d_Reck_forget_0 : decode prog_7_method_2_code 0 = .ok (.aload_n 0, 1) := by decide +kernel
theorem d_Reck_forget_1 : decode prog_7_method_2_code 1 = .ok (.iconst 0, 1) := by decide +kernel
theorem d_Reck_forget_2 : decode prog_7_method_2_code 2 = .ok (.putfield 37, 3) := by decide +kernel
theorem d_Reck_forget_5 : decode prog_7_method_2_code 5 = .ok (.aload_n 0, 1) := by decide +kernel
theorem d_Reck_forget_6 : decode prog_7_method_2_code 6 = .ok (.iconst 0, 1) := by decide +kernel
theorem d_Reck_forget_7 : decode prog_7_method_2_code 7 = .ok (.putfield 40, 3) := by decide +kernel
theorem d_Reck_forget_10 : decode prog_7_method_2_code 10 = .ok (.aload_n 0, 1) := by decide +kernel
theorem d_Reck_forget_11 : decode prog_7_method_2_code 11 = .ok (.invokevirtual 65, 3) := by decide +kernel
theorem d_Reck_forget_14 : decode prog_7_method_2_code 14 = .ok (.aload_n 0, 1) := by decide +kernel
theorem d_Reck_forget_15 : decode prog_7_method_2_code 15 = .ok (.invokevirtual 68, 3) := by decide +kernel
theorem d_Reck_forget_18 : decode prog_7_method_2_code 18 = .ok (.return_, 1) := by decide +kernel
theorem b_Reck_forget_0 {d : Nat} {h : am_H} {Q : am_Q} (k : m_Reck_forgetBest d [.ref 12] (am_pI (am_pI h 12 9 0) 12 10 0) (fun r hh => am_W (X_Reck_forget (d + 1)) 14 [some (.ref 12)] (r.toList ++ []) hh Q)) : am_W (X_Reck_forget (d + 1)) 0 [some (.ref 12)] [] h Q :=
  am_aload_n d_Reck_forget_0 rfl (i := 0) rfl <|
    am_iconst (v := 0) d_Reck_forget_1 (by decide) <|
    am_putI (ci := 3) (i := 9) rfl rfl rfl (Nat.le_of_ble_eq_true rfl) w_203 rfl (by decide) (by decide) d_Reck_forget_2 <|
    am_aload_n d_Reck_forget_5 rfl (i := 0) rfl <|
    am_iconst (v := 0) d_Reck_forget_6 (by decide) <|
    am_putI (ci := 3) (i := 10) rfl rfl rfl (Nat.le_of_ble_eq_true rfl) w_204 rfl (by decide) (by decide) d_Reck_forget_7 <|
    am_aload_n d_Reck_forget_10 rfl (i := 0) rfl <|
    am_callV (vs := []) (st := []) (k := 12) (ci := 3) rfl d_Reck_forget_11 rfl rfl w_412 w_414 w_0 w_87 w_415 p_Reck_forgetBest (Nat.le_of_ble_eq_true rfl) (Nat.le_of_ble_eq_true rfl) rfl k
theorem b_Reck_forget_14 {d : Nat} {h : am_H} {Q : am_Q} (k : m_Reck_forgetLawful d [.ref 12] h (fun r hh => am_W (X_Reck_forget (d + 1)) 18 [some (.ref 12)] (r.toList ++ []) hh Q)) : am_W (X_Reck_forget (d + 1)) 14 [some (.ref 12)] [] h Q :=
  am_aload_n d_Reck_forget_14 rfl (i := 0) rfl <|
    am_callV (vs := []) (st := []) (k := 12) (ci := 3) rfl d_Reck_forget_15 rfl rfl w_419 w_421 w_1 w_87 w_422 p_Reck_forgetLawful (Nat.le_of_ble_eq_true rfl) (Nat.le_of_ble_eq_true rfl) rfl k
theorem b_Reck_forget_18 {d : Nat} {h : am_H} {Q : am_Q} (q : Q none h) : am_W (X_Reck_forget d) 18 [some (.ref 12)] [] h Q :=
  am_vret rfl d_Reck_forget_18 q
theorem t_Reck_forget_18 {d : Nat} {h : am_H} {Q : am_Q} {res : am_H} (e : f_Reck_forget_18 h = some res) (q : Q none res) : am_W (X_Reck_forget (d + 2)) 18 [some (.ref 12)] [] h Q :=
  b_Reck_forget_18 (d := (d + 2)) (q := (am_rVpi e q))
theorem t_Reck_forget_14 {d : Nat} {h : am_H} {Q : am_Q} {res : am_H} (e : f_Reck_forget_14 h = some res) (q : Q none res) : am_W (X_Reck_forget (d + 2)) 14 [some (.ref 12)] [] h Q :=
  (am_bd e).elim fun p hp => b_Reck_forget_14 (d := (d + 1)) (k := c_Reck_forgetLawful (d := d) hp.1 (t_Reck_forget_18 hp.2 q))
theorem t_Reck_forget_0 {d : Nat} {h : am_H} {Q : am_Q} {res : am_H} (e : f_Reck_forget h = some res) (q : Q none res) : am_W (X_Reck_forget (d + 2)) 0 [some (.ref 12)] [] h Q :=
  (am_bd e).elim fun p hp => b_Reck_forget_0 (d := (d + 1)) (k := c_Reck_forgetBest (d := d) hp.1 (t_Reck_forget_14 hp.2 q))
theorem c_Reck_forget {d : Nat} {h : am_H} {Q : am_Q} {res : am_H} (e : f_Reck_forget h = some res) (q : Q none res) : m_Reck_forget (d + 2) [.ref 12] h Q :=
  e_Reck_forget (t_Reck_forget_0 e q)
theorem d_Club_club_0 : decode prog_1_method_2_code 0 = .ok (.iload_n 1, 1) := by decide +kernel
theorem d_Club_club_1 : decode prog_1_method_2_code 1 = .ok (.ifCond .lt 18, 3) := by decide +kernel
theorem d_Club_club_4 : decode prog_1_method_2_code 4 = .ok (.iload_n 1, 1) := by decide +kernel
theorem d_Club_club_5 : decode prog_1_method_2_code 5 = .ok (.bipush 10, 2) := by decide +kernel
theorem d_Club_club_7 : decode prog_1_method_2_code 7 = .ok (.idiv, 1) := by decide +kernel
theorem d_Club_club_8 : decode prog_1_method_2_code 8 = .ok (.iload_n 1, 1) := by decide +kernel
theorem d_Club_club_9 : decode prog_1_method_2_code 9 = .ok (.bipush 10, 2) := by decide +kernel
theorem d_Club_club_11 : decode prog_1_method_2_code 11 = .ok (.irem, 1) := by decide +kernel
theorem d_Club_club_12 : decode prog_1_method_2_code 12 = .ok (.iconst 1, 1) := by decide +kernel
theorem d_Club_club_13 : decode prog_1_method_2_code 13 = .ok (.invokestatic 80, 3) := by decide +kernel
theorem d_Club_club_16 : decode prog_1_method_2_code 16 = .ok (.ifCond .ne 5, 3) := by decide +kernel
theorem d_Club_club_19 : decode prog_1_method_2_code 19 = .ok (.iconst (-1), 1) := by decide +kernel
theorem d_Club_club_20 : decode prog_1_method_2_code 20 = .ok (.ireturn, 1) := by decide +kernel
theorem d_Club_club_21 : decode prog_1_method_2_code 21 = .ok (.aload_n 0, 1) := by decide +kernel
theorem d_Club_club_22 : decode prog_1_method_2_code 22 = .ok (.getfield 12, 3) := by decide +kernel
theorem d_Club_club_25 : decode prog_1_method_2_code 25 = .ok (.invokevirtual 84, 3) := by decide +kernel
theorem d_Club_club_28 : decode prog_1_method_2_code 28 = .ok (.ifCond .eq 6, 3) := by decide +kernel
theorem d_Club_club_31 : decode prog_1_method_2_code 31 = .ok (.bipush (-3), 2) := by decide +kernel
theorem d_Club_club_33 : decode prog_1_method_2_code 33 = .ok (.ireturn, 1) := by decide +kernel
theorem d_Club_club_34 : decode prog_1_method_2_code 34 = .ok (.aload_n 0, 1) := by decide +kernel
theorem d_Club_club_35 : decode prog_1_method_2_code 35 = .ok (.getfield 30, 3) := by decide +kernel
theorem d_Club_club_38 : decode prog_1_method_2_code 38 = .ok (.invokevirtual 88, 3) := by decide +kernel
theorem d_Club_club_41 : decode prog_1_method_2_code 41 = .ok (.aload_n 0, 1) := by decide +kernel
theorem d_Club_club_42 : decode prog_1_method_2_code 42 = .ok (.getfield 12, 3) := by decide +kernel
theorem d_Club_club_45 : decode prog_1_method_2_code 45 = .ok (.iload_n 1, 1) := by decide +kernel
theorem d_Club_club_46 : decode prog_1_method_2_code 46 = .ok (.bipush 10, 2) := by decide +kernel
theorem d_Club_club_48 : decode prog_1_method_2_code 48 = .ok (.idiv, 1) := by decide +kernel
theorem d_Club_club_49 : decode prog_1_method_2_code 49 = .ok (.iload_n 1, 1) := by decide +kernel
theorem d_Club_club_50 : decode prog_1_method_2_code 50 = .ok (.bipush 10, 2) := by decide +kernel
theorem d_Club_club_52 : decode prog_1_method_2_code 52 = .ok (.irem, 1) := by decide +kernel
theorem d_Club_club_53 : decode prog_1_method_2_code 53 = .ok (.iconst 1, 1) := by decide +kernel
theorem d_Club_club_54 : decode prog_1_method_2_code 54 = .ok (.invokevirtual 91, 3) := by decide +kernel
theorem d_Club_club_57 : decode prog_1_method_2_code 57 = .ok (.ireturn, 1) := by decide +kernel
theorem b_Club_club_0 {d : Nat} {x1 : Int32} {h : am_H} {Q : am_Q} (kt : x1 < 0 → am_W (X_Club_club d) 19 [some (.ref 0), some (.int x1)] [] h Q) (kf : ¬ x1 < 0 → am_W (X_Club_club d) 4 [some (.ref 0), some (.int x1)] [] h Q) : am_W (X_Club_club d) 0 [some (.ref 0), some (.int x1)] [] h Q :=
  am_iload_n d_Club_club_0 rfl (i := 1) rfl <|
    am_if_lt (tgt := 19) d_Club_club_1 (by decide) kt kf
theorem b_Club_club_4 {d : Nat} {x1 : Int32} {h : am_H} {Q : am_Q} (k : m_Hole_isClub d [.int (x1 / 10), .int (x1 - x1 / 10 * 10), .int 1] h (fun r hh => am_W (X_Club_club (d + 1)) 16 [some (.ref 0), some (.int x1)] (r.toList ++ []) hh Q)) : am_W (X_Club_club (d + 1)) 4 [some (.ref 0), some (.int x1)] [] h Q :=
  am_iload_n d_Club_club_4 rfl (i := 1) rfl <|
    am_bipush (v := 10) d_Club_club_5 (by decide) <|
    am_idiv d_Club_club_7 (by decide) <|
    am_iload_n d_Club_club_8 rfl (i := 1) rfl <|
    am_bipush (v := 10) d_Club_club_9 (by decide) <|
    am_irem d_Club_club_11 (by decide) <|
    am_iconst (v := 1) d_Club_club_12 (by decide) <|
    am_callS (vs := [.int (x1 / 10), .int (x1 - x1 / 10 * 10), .int 1]) (st := []) rfl d_Club_club_13 w_394 w_395 w_84 w_396 p_Hole_isClub (Nat.le_of_ble_eq_true rfl) (Nat.le_of_ble_eq_true rfl) rfl k
theorem b_Club_club_16 {d : Nat} {x1 : Int32} {y0 : Bool} {h : am_H} {Q : am_Q} (kt : ¬ (am_b y0) = 0 → am_W (X_Club_club d) 21 [some (.ref 0), some (.int x1)] [] h Q) (kf : (am_b y0) = 0 → am_W (X_Club_club d) 19 [some (.ref 0), some (.int x1)] [] h Q) : am_W (X_Club_club d) 16 [some (.ref 0), some (.int x1)] [.int (am_b y0)] h Q :=
  am_if_ne (tgt := 21) d_Club_club_16 (by decide) kt kf
theorem b_Club_club_19 {d : Nat} {x1 : Int32} {h : am_H} {Q : am_Q} (q : Q (some (.int (-1))) h) : am_W (X_Club_club d) 19 [some (.ref 0), some (.int x1)] [] h Q :=
  am_iconst (v := (-1)) d_Club_club_19 (by decide) <|
    am_iret rfl d_Club_club_20 q
theorem b_Club_club_21 {d : Nat} {x1 : Int32} {h : am_H} {Q : am_Q} (k : m_Hole_isFull d [.ref 1] h (fun r hh => am_W (X_Club_club (d + 1)) 28 [some (.ref 0), some (.int x1)] (r.toList ++ []) hh Q)) : am_W (X_Club_club (d + 1)) 21 [some (.ref 0), some (.int x1)] [] h Q :=
  am_aload_n d_Club_club_21 rfl (i := 0) rfl <|
    am_getR (ci := 0) (i := 0) rfl rfl rfl (Nat.le_of_ble_eq_true rfl) w_362 d_Club_club_22 <|
    am_callV (vs := []) (st := []) (k := 1) (ci := 1) rfl d_Club_club_25 rfl rfl w_404 w_405 w_406 w_84 w_407 p_Hole_isFull (Nat.le_of_ble_eq_true rfl) (Nat.le_of_ble_eq_true rfl) rfl k
theorem b_Club_club_28 {d : Nat} {x1 : Int32} {y0 : Bool} {h : am_H} {Q : am_Q} (kt : (am_b y0) = 0 → am_W (X_Club_club d) 34 [some (.ref 0), some (.int x1)] [] h Q) (kf : ¬ (am_b y0) = 0 → am_W (X_Club_club d) 31 [some (.ref 0), some (.int x1)] [] h Q) : am_W (X_Club_club d) 28 [some (.ref 0), some (.int x1)] [.int (am_b y0)] h Q :=
  am_if_eq (tgt := 34) d_Club_club_28 (by decide) kt kf
theorem b_Club_club_31 {d : Nat} {x1 : Int32} {h : am_H} {Q : am_Q} (q : Q (some (.int (-3))) h) : am_W (X_Club_club d) 31 [some (.ref 0), some (.int x1)] [] h Q :=
  am_bipush (v := (-3)) d_Club_club_31 (by decide) <|
    am_iret rfl d_Club_club_33 q
theorem b_Club_club_34 {d : Nat} {x1 : Int32} {h : am_H} {Q : am_Q} (k : m_Reck_forget d [.ref 12] h (fun r hh => am_W (X_Club_club (d + 1)) 41 [some (.ref 0), some (.int x1)] (r.toList ++ []) hh Q)) : am_W (X_Club_club (d + 1)) 34 [some (.ref 0), some (.int x1)] [] h Q :=
  am_aload_n d_Club_club_34 rfl (i := 0) rfl <|
    am_getR (ci := 0) (i := 2) rfl rfl rfl (Nat.le_of_ble_eq_true rfl) w_364 d_Club_club_35 <|
    am_callV (vs := []) (st := []) (k := 12) (ci := 3) rfl d_Club_club_38 rfl rfl w_408 w_409 w_410 w_87 w_411 p_Reck_forget (Nat.le_of_ble_eq_true rfl) (Nat.le_of_ble_eq_true rfl) rfl k
theorem b_Club_club_41 {d : Nat} {x1 : Int32} {h : am_H} {Q : am_Q} (k : m_Hole_addClub d [.ref 1, .int (x1 / 10), .int (x1 - x1 / 10 * 10), .int 1] h (fun r hh => am_W (X_Club_club (d + 1)) 57 [some (.ref 0), some (.int x1)] (r.toList ++ []) hh Q)) : am_W (X_Club_club (d + 1)) 41 [some (.ref 0), some (.int x1)] [] h Q :=
  am_aload_n d_Club_club_41 rfl (i := 0) rfl <|
    am_getR (ci := 0) (i := 0) rfl rfl rfl (Nat.le_of_ble_eq_true rfl) w_362 d_Club_club_42 <|
    am_iload_n d_Club_club_45 rfl (i := 1) rfl <|
    am_bipush (v := 10) d_Club_club_46 (by decide) <|
    am_idiv d_Club_club_48 (by decide) <|
    am_iload_n d_Club_club_49 rfl (i := 1) rfl <|
    am_bipush (v := 10) d_Club_club_50 (by decide) <|
    am_irem d_Club_club_52 (by decide) <|
    am_iconst (v := 1) d_Club_club_53 (by decide) <|
    am_callV (vs := [.int (x1 / 10), .int (x1 - x1 / 10 * 10), .int 1]) (st := []) (k := 1) (ci := 1) rfl d_Club_club_54 rfl rfl w_423 w_424 w_425 w_84 w_426 p_Hole_addClub (Nat.le_of_ble_eq_true rfl) (Nat.le_of_ble_eq_true rfl) rfl k
theorem b_Club_club_57 {d : Nat} {x1 : Int32} {y0 : Int32} {h : am_H} {Q : am_Q} (q : Q (some (.int y0)) h) : am_W (X_Club_club d) 57 [some (.ref 0), some (.int x1)] [.int y0] h Q :=
  am_iret rfl d_Club_club_57 q
theorem t_Club_club_19 {d : Nat} {x1 : Int32} {h : am_H} {Q : am_Q} {res : Int32 × am_H} (e : f_Club_club_19 h = some res) (q : Q (some (.int res.1)) res.2) : am_W (X_Club_club (d + 3)) 19 [some (.ref 0), some (.int x1)] [] h Q :=
  b_Club_club_19 (d := (d + 3)) (q := (am_rIpi (v := (-1)) e q))
theorem t_Club_club_57 {d : Nat} {x1 : Int32} {y0 : Int32} {h : am_H} {Q : am_Q} {res : Int32 × am_H} (e : f_Club_club_57 h y0 = some res) (q : Q (some (.int res.1)) res.2) : am_W (X_Club_club (d + 3)) 57 [some (.ref 0), some (.int x1)] [.int y0] h Q :=
  b_Club_club_57 (d := (d + 3)) (q := (am_rIpi (v := y0) e q))
theorem t_Club_club_41 {d : Nat} {x1 : Int32} {h : am_H} {Q : am_Q} {res : Int32 × am_H} (e : f_Club_club_41 h x1 = some res) (q : Q (some (.int res.1)) res.2) : am_W (X_Club_club (d + 3)) 41 [some (.ref 0), some (.int x1)] [] h Q :=
  (am_bd e).elim fun p hp => b_Club_club_41 (d := (d + 2)) (k := c_Hole_addClub (d := d + 2) hp.1 (t_Club_club_57 hp.2 q))
theorem t_Club_club_34 {d : Nat} {x1 : Int32} {h : am_H} {Q : am_Q} {res : Int32 × am_H} (e : f_Club_club_34 h x1 = some res) (q : Q (some (.int res.1)) res.2) : am_W (X_Club_club (d + 3)) 34 [some (.ref 0), some (.int x1)] [] h Q :=
  (am_bd e).elim fun p hp => b_Club_club_34 (d := (d + 2)) (k := c_Reck_forget (d := d) hp.1 (t_Club_club_41 hp.2 q))
theorem t_Club_club_31 {d : Nat} {x1 : Int32} {h : am_H} {Q : am_Q} {res : Int32 × am_H} (e : f_Club_club_31 h = some res) (q : Q (some (.int res.1)) res.2) : am_W (X_Club_club (d + 3)) 31 [some (.ref 0), some (.int x1)] [] h Q :=
  b_Club_club_31 (d := (d + 3)) (q := (am_rIpi (v := (-3)) e q))
theorem t_Club_club_28 {d : Nat} {x1 : Int32} {y0 : Bool} {h : am_H} {Q : am_Q} {res : Int32 × am_H} (e : f_Club_club_28 h x1 y0 = some res) (q : Q (some (.int res.1)) res.2) : am_W (X_Club_club (d + 3)) 28 [some (.ref 0), some (.int x1)] [.int (am_b y0)] h Q :=
  b_Club_club_28 (d := (d + 3)) (kt := fun c => (t_Club_club_34 (am_iff e (am_bz c)) q)) (kf := fun c => (t_Club_club_31 (am_ift e (am_bn c)) q))
theorem t_Club_club_21 {d : Nat} {x1 : Int32} {h : am_H} {Q : am_Q} {res : Int32 × am_H} (e : f_Club_club_21 h x1 = some res) (q : Q (some (.int res.1)) res.2) : am_W (X_Club_club (d + 3)) 21 [some (.ref 0), some (.int x1)] [] h Q :=
  b_Club_club_21 (d := (d + 2)) (k := c_Hole_isFull (d := d + 2) rfl (t_Club_club_28 e q))
theorem t_Club_club_16 {d : Nat} {x1 : Int32} {y0 : Bool} {h : am_H} {Q : am_Q} {res : Int32 × am_H} (e : f_Club_club_16 h x1 y0 = some res) (q : Q (some (.int res.1)) res.2) : am_W (X_Club_club (d + 3)) 16 [some (.ref 0), some (.int x1)] [.int (am_b y0)] h Q :=
  b_Club_club_16 (d := (d + 3)) (kt := fun c => (t_Club_club_21 (am_ift e (am_bn c)) q)) (kf := fun c => (t_Club_club_19 (am_iff e (am_bz c)) q))
theorem t_Club_club_4 {d : Nat} {x1 : Int32} {h : am_H} {Q : am_Q} {res : Int32 × am_H} (e : f_Club_club_4 h x1 = some res) (q : Q (some (.int res.1)) res.2) : am_W (X_Club_club (d + 3)) 4 [some (.ref 0), some (.int x1)] [] h Q :=
  (am_bd e).elim fun p hp => b_Club_club_4 (d := (d + 2)) (k := c_Hole_isClub (d := d + 1) hp.1 (t_Club_club_16 hp.2 q))
theorem t_Club_club_0 {d : Nat} {x1 : Int32} {h : am_H} {Q : am_Q} {res : Int32 × am_H} (e : f_Club_club h x1 = some res) (q : Q (some (.int res.1)) res.2) : am_W (X_Club_club (d + 3)) 0 [some (.ref 0), some (.int x1)] [] h Q :=
  b_Club_club_0 (d := (d + 3)) (kt := fun c => (t_Club_club_19 (am_ift e c) q)) (kf := fun c => (t_Club_club_4 (am_ife e c) q))
theorem c_Club_club {d : Nat} {x1 : Int32} {h : am_H} {Q : am_Q} {res : Int32 × am_H} (e : f_Club_club h x1 = some res) (q : Q (some (.int res.1)) res.2) : m_Club_club (d + 3) [.ref 0, .int x1] h Q :=
  e_Club_club (t_Club_club_0 e q)
theorem d_Club_isShelf_0 : decode prog_1_method_43_code 0 = .ok (.iload_n 0, 1) := by decide +kernel
theorem d_Club_isShelf_1 : decode prog_1_method_43_code 1 = .ok (.ifCond .lt 13, 3) := by decide +kernel
theorem d_Club_isShelf_4 : decode prog_1_method_43_code 4 = .ok (.iload_n 0, 1) := by decide +kernel
theorem d_Club_isShelf_5 : decode prog_1_method_43_code 5 = .ok (.bipush 6, 2) := by decide +kernel
theorem d_Club_isShelf_7 : decode prog_1_method_43_code 7 = .ok (.if_icmp .ge 7, 3) := by decide +kernel
theorem d_Club_isShelf_10 : decode prog_1_method_43_code 10 = .ok (.iconst 1, 1) := by decide +kernel
theorem d_Club_isShelf_11 : decode prog_1_method_43_code 11 = .ok (.goto 4, 3) := by decide +kernel
theorem d_Club_isShelf_14 : decode prog_1_method_43_code 14 = .ok (.iconst 0, 1) := by decide +kernel
theorem d_Club_isShelf_15 : decode prog_1_method_43_code 15 = .ok (.ireturn, 1) := by decide +kernel
theorem b_Club_isShelf_0 {d : Nat} {x0 : Int32} {h : am_H} {Q : am_Q} (kt : x0 < 0 → am_W (X_Club_isShelf d) 14 [some (.int x0)] [] h Q) (kf : ¬ x0 < 0 → am_W (X_Club_isShelf d) 4 [some (.int x0)] [] h Q) : am_W (X_Club_isShelf d) 0 [some (.int x0)] [] h Q :=
  am_iload_n d_Club_isShelf_0 rfl (i := 0) rfl <|
    am_if_lt (tgt := 14) d_Club_isShelf_1 (by decide) kt kf
theorem b_Club_isShelf_4 {d : Nat} {x0 : Int32} {h : am_H} {Q : am_Q} (kt : 6 ≤ x0 → am_W (X_Club_isShelf d) 14 [some (.int x0)] [] h Q) (kf : ¬ 6 ≤ x0 → am_W (X_Club_isShelf d) 10 [some (.int x0)] [] h Q) : am_W (X_Club_isShelf d) 4 [some (.int x0)] [] h Q :=
  am_iload_n d_Club_isShelf_4 rfl (i := 0) rfl <|
    am_bipush (v := 6) d_Club_isShelf_5 (by decide) <|
    am_icmp_ge (tgt := 14) d_Club_isShelf_7 (by decide) kt kf
theorem b_Club_isShelf_10 {d : Nat} {x0 : Int32} {h : am_H} {Q : am_Q} (q : Q (some (.int 1)) h) : am_W (X_Club_isShelf d) 10 [some (.int x0)] [] h Q :=
  am_iconst (v := 1) d_Club_isShelf_10 (by decide) <|
    am_goto (tgt := 15) d_Club_isShelf_11 (by decide) <|
    am_zret (ty := .boolean) rfl (by decide) d_Club_isShelf_15 q
theorem b_Club_isShelf_14 {d : Nat} {x0 : Int32} {h : am_H} {Q : am_Q} (q : Q (some (.int 0)) h) : am_W (X_Club_isShelf d) 14 [some (.int x0)] [] h Q :=
  am_iconst (v := 0) d_Club_isShelf_14 (by decide) <|
    am_zret (ty := .boolean) rfl (by decide) d_Club_isShelf_15 q
theorem t_Club_isShelf_14 {d : Nat} {x0 : Int32} {h : am_H} {Q : am_Q} {res : Bool} (e : f_Club_isShelf_14 = res) (q : Q (some (.int (am_b res))) h) : am_W (X_Club_isShelf d) 14 [some (.int x0)] [] h Q :=
  b_Club_isShelf_14 (d := d) (q := (am_rZt (v := false) e q))
theorem t_Club_isShelf_10 {d : Nat} {x0 : Int32} {h : am_H} {Q : am_Q} {res : Bool} (e : f_Club_isShelf_10 = res) (q : Q (some (.int (am_b res))) h) : am_W (X_Club_isShelf d) 10 [some (.int x0)] [] h Q :=
  b_Club_isShelf_10 (d := d) (q := (am_rZt (v := true) e q))
theorem t_Club_isShelf_4 {d : Nat} {x0 : Int32} {h : am_H} {Q : am_Q} {res : Bool} (e : f_Club_isShelf_4 x0 = res) (q : Q (some (.int (am_b res))) h) : am_W (X_Club_isShelf d) 4 [some (.int x0)] [] h Q :=
  b_Club_isShelf_4 (d := d) (kt := fun c => (t_Club_isShelf_14 (am_ift e c) q)) (kf := fun c => (t_Club_isShelf_10 (am_ife e c) q))
theorem t_Club_isShelf_0 {d : Nat} {x0 : Int32} {h : am_H} {Q : am_Q} {res : Bool} (e : f_Club_isShelf x0 = res) (q : Q (some (.int (am_b res))) h) : am_W (X_Club_isShelf d) 0 [some (.int x0)] [] h Q :=
  b_Club_isShelf_0 (d := d) (kt := fun c => (t_Club_isShelf_14 (am_ift e c) q)) (kf := fun c => (t_Club_isShelf_4 (am_ife e c) q))
theorem c_Club_isShelf {d : Nat} {x0 : Int32} {h : am_H} {Q : am_Q} {res : Bool} (e : f_Club_isShelf x0 = res) (q : Q (some (.int (am_b res))) h) : m_Club_isShelf d [.int x0] h Q :=
  e_Club_isShelf (t_Club_isShelf_0 e q)
theorem d_Shelf_hasPlaces_0 : decode prog_9_method_12_code 0 = .ok (.iload_n 1, 1) := by decide +kernel
theorem d_Shelf_hasPlaces_1 : decode prog_9_method_12_code 1 = .ok (.ifCond .lt 29, 3) := by decide +kernel
theorem d_Shelf_hasPlaces_4 : decode prog_9_method_12_code 4 = .ok (.iload_n 2, 1) := by decide +kernel
theorem d_Shelf_hasPlaces_5 : decode prog_9_method_12_code 5 = .ok (.ifCond .lt 25, 3) := by decide +kernel
theorem d_Shelf_hasPlaces_8 : decode prog_9_method_12_code 8 = .ok (.iload_n 2, 1) := by decide +kernel
theorem d_Shelf_hasPlaces_9 : decode prog_9_method_12_code 9 = .ok (.aload_n 0, 1) := by decide +kernel
theorem d_Shelf_hasPlaces_10 : decode prog_9_method_12_code 10 = .ok (.getfield 20, 3) := by decide +kernel
theorem d_Shelf_hasPlaces_13 : decode prog_9_method_12_code 13 = .ok (.if_icmp .gt 17, 3) := by decide +kernel
theorem d_Shelf_hasPlaces_16 : decode prog_9_method_12_code 16 = .ok (.iload_n 1, 1) := by decide +kernel
theorem d_Shelf_hasPlaces_17 : decode prog_9_method_12_code 17 = .ok (.aload_n 0, 1) := by decide +kernel
theorem d_Shelf_hasPlaces_18 : decode prog_9_method_12_code 18 = .ok (.getfield 20, 3) := by decide +kernel
theorem d_Shelf_hasPlaces_21 : decode prog_9_method_12_code 21 = .ok (.iload_n 2, 1) := by decide +kernel
theorem d_Shelf_hasPlaces_22 : decode prog_9_method_12_code 22 = .ok (.isub, 1) := by decide +kernel
theorem d_Shelf_hasPlaces_23 : decode prog_9_method_12_code 23 = .ok (.if_icmp .gt 7, 3) := by decide +kernel
theorem d_Shelf_hasPlaces_26 : decode prog_9_method_12_code 26 = .ok (.iconst 1, 1) := by decide +kernel
theorem d_Shelf_hasPlaces_27 : decode prog_9_method_12_code 27 = .ok (.goto 4, 3) := by decide +kernel
theorem d_Shelf_hasPlaces_30 : decode prog_9_method_12_code 30 = .ok (.iconst 0, 1) := by decide +kernel
theorem d_Shelf_hasPlaces_31 : decode prog_9_method_12_code 31 = .ok (.ireturn, 1) := by decide +kernel
theorem b_Shelf_hasPlaces_0 {d : Nat} {a0 : Nat} {x1 : Int32} {x2 : Int32} {h : am_H} {Q : am_Q} (sa0 : am_shf a0) (kt : x1 < 0 → am_W (X_Shelf_hasPlaces d) 30 [some (.ref a0), some (.int x1), some (.int x2)] [] h Q) (kf : ¬ x1 < 0 → am_W (X_Shelf_hasPlaces d) 4 [some (.ref a0), some (.int x1), some (.int x2)] [] h Q) : am_W (X_Shelf_hasPlaces d) 0 [some (.ref a0), some (.int x1), some (.int x2)] [] h Q :=
  am_iload_n d_Shelf_hasPlaces_0 rfl (i := 1) rfl <|
    am_if_lt (tgt := 30) d_Shelf_hasPlaces_1 (by decide) kt kf
theorem b_Shelf_hasPlaces_4 {d : Nat} {a0 : Nat} {x1 : Int32} {x2 : Int32} {h : am_H} {Q : am_Q} (sa0 : am_shf a0) (kt : x2 < 0 → am_W (X_Shelf_hasPlaces d) 30 [some (.ref a0), some (.int x1), some (.int x2)] [] h Q) (kf : ¬ x2 < 0 → am_W (X_Shelf_hasPlaces d) 8 [some (.ref a0), some (.int x1), some (.int x2)] [] h Q) : am_W (X_Shelf_hasPlaces d) 4 [some (.ref a0), some (.int x1), some (.int x2)] [] h Q :=
  am_iload_n d_Shelf_hasPlaces_4 rfl (i := 2) rfl <|
    am_if_lt (tgt := 30) d_Shelf_hasPlaces_5 (by decide) kt kf
theorem b_Shelf_hasPlaces_8 {d : Nat} {a0 : Nat} {x1 : Int32} {x2 : Int32} {h : am_H} {Q : am_Q} (sa0 : am_shf a0) (kt : (h.1 a0 3) < x2 → am_W (X_Shelf_hasPlaces d) 30 [some (.ref a0), some (.int x1), some (.int x2)] [] h Q) (kf : ¬ (h.1 a0 3) < x2 → am_W (X_Shelf_hasPlaces d) 16 [some (.ref a0), some (.int x1), some (.int x2)] [] h Q) : am_W (X_Shelf_hasPlaces d) 8 [some (.ref a0), some (.int x1), some (.int x2)] [] h Q :=
  am_iload_n d_Shelf_hasPlaces_8 rfl (i := 2) rfl <|
    am_aload_n d_Shelf_hasPlaces_9 rfl (i := 0) rfl <|
    am_getI (ci := 9) (i := 3) rfl sa0.1 rfl (Nat.le_of_ble_eq_true rfl) w_352 d_Shelf_hasPlaces_10 <|
    am_icmp_gt (tgt := 30) d_Shelf_hasPlaces_13 (by decide) kt kf
theorem b_Shelf_hasPlaces_16 {d : Nat} {a0 : Nat} {x1 : Int32} {x2 : Int32} {h : am_H} {Q : am_Q} (sa0 : am_shf a0) (kt : ((h.1 a0 3) - x2) < x1 → am_W (X_Shelf_hasPlaces d) 30 [some (.ref a0), some (.int x1), some (.int x2)] [] h Q) (kf : ¬ ((h.1 a0 3) - x2) < x1 → am_W (X_Shelf_hasPlaces d) 26 [some (.ref a0), some (.int x1), some (.int x2)] [] h Q) : am_W (X_Shelf_hasPlaces d) 16 [some (.ref a0), some (.int x1), some (.int x2)] [] h Q :=
  am_iload_n d_Shelf_hasPlaces_16 rfl (i := 1) rfl <|
    am_aload_n d_Shelf_hasPlaces_17 rfl (i := 0) rfl <|
    am_getI (ci := 9) (i := 3) rfl sa0.1 rfl (Nat.le_of_ble_eq_true rfl) w_352 d_Shelf_hasPlaces_18 <|
    am_iload_n d_Shelf_hasPlaces_21 rfl (i := 2) rfl <|
    am_isub d_Shelf_hasPlaces_22 <|
    am_icmp_gt (tgt := 30) d_Shelf_hasPlaces_23 (by decide) kt kf
theorem b_Shelf_hasPlaces_26 {d : Nat} {a0 : Nat} {x1 : Int32} {x2 : Int32} {h : am_H} {Q : am_Q} (sa0 : am_shf a0) (q : Q (some (.int 1)) h) : am_W (X_Shelf_hasPlaces d) 26 [some (.ref a0), some (.int x1), some (.int x2)] [] h Q :=
  am_iconst (v := 1) d_Shelf_hasPlaces_26 (by decide) <|
    am_goto (tgt := 31) d_Shelf_hasPlaces_27 (by decide) <|
    am_zret (ty := .boolean) rfl (by decide) d_Shelf_hasPlaces_31 q
theorem b_Shelf_hasPlaces_30 {d : Nat} {a0 : Nat} {x1 : Int32} {x2 : Int32} {h : am_H} {Q : am_Q} (sa0 : am_shf a0) (q : Q (some (.int 0)) h) : am_W (X_Shelf_hasPlaces d) 30 [some (.ref a0), some (.int x1), some (.int x2)] [] h Q :=
  am_iconst (v := 0) d_Shelf_hasPlaces_30 (by decide) <|
    am_zret (ty := .boolean) rfl (by decide) d_Shelf_hasPlaces_31 q
theorem t_Shelf_hasPlaces_30 {d : Nat} {a0 : Nat} {x1 : Int32} {x2 : Int32} {h : am_H} {Q : am_Q} {res : Bool} (sa0 : am_shf a0) (e : f_Shelf_hasPlaces_30 h = res) (q : Q (some (.int (am_b res))) h) : am_W (X_Shelf_hasPlaces d) 30 [some (.ref a0), some (.int x1), some (.int x2)] [] h Q :=
  b_Shelf_hasPlaces_30 (d := d) (sa0 := sa0) (q := (am_rZt (v := false) e q))
theorem t_Shelf_hasPlaces_26 {d : Nat} {a0 : Nat} {x1 : Int32} {x2 : Int32} {h : am_H} {Q : am_Q} {res : Bool} (sa0 : am_shf a0) (e : f_Shelf_hasPlaces_26 h = res) (q : Q (some (.int (am_b res))) h) : am_W (X_Shelf_hasPlaces d) 26 [some (.ref a0), some (.int x1), some (.int x2)] [] h Q :=
  b_Shelf_hasPlaces_26 (d := d) (sa0 := sa0) (q := (am_rZt (v := true) e q))
theorem t_Shelf_hasPlaces_16 {d : Nat} {a0 : Nat} {x1 : Int32} {x2 : Int32} {h : am_H} {Q : am_Q} {res : Bool} (sa0 : am_shf a0) (e : f_Shelf_hasPlaces_16 h a0 x1 x2 = res) (q : Q (some (.int (am_b res))) h) : am_W (X_Shelf_hasPlaces d) 16 [some (.ref a0), some (.int x1), some (.int x2)] [] h Q :=
  b_Shelf_hasPlaces_16 (d := d) (sa0 := sa0) (kt := fun c => (t_Shelf_hasPlaces_30 sa0 (am_ift e c) q)) (kf := fun c => (t_Shelf_hasPlaces_26 sa0 (am_ife e c) q))
theorem t_Shelf_hasPlaces_8 {d : Nat} {a0 : Nat} {x1 : Int32} {x2 : Int32} {h : am_H} {Q : am_Q} {res : Bool} (sa0 : am_shf a0) (e : f_Shelf_hasPlaces_8 h a0 x1 x2 = res) (q : Q (some (.int (am_b res))) h) : am_W (X_Shelf_hasPlaces d) 8 [some (.ref a0), some (.int x1), some (.int x2)] [] h Q :=
  b_Shelf_hasPlaces_8 (d := d) (sa0 := sa0) (kt := fun c => (t_Shelf_hasPlaces_30 sa0 (am_ift e c) q)) (kf := fun c => (t_Shelf_hasPlaces_16 sa0 (am_ife e c) q))
theorem t_Shelf_hasPlaces_4 {d : Nat} {a0 : Nat} {x1 : Int32} {x2 : Int32} {h : am_H} {Q : am_Q} {res : Bool} (sa0 : am_shf a0) (e : f_Shelf_hasPlaces_4 h a0 x1 x2 = res) (q : Q (some (.int (am_b res))) h) : am_W (X_Shelf_hasPlaces d) 4 [some (.ref a0), some (.int x1), some (.int x2)] [] h Q :=
  b_Shelf_hasPlaces_4 (d := d) (sa0 := sa0) (kt := fun c => (t_Shelf_hasPlaces_30 sa0 (am_ift e c) q)) (kf := fun c => (t_Shelf_hasPlaces_8 sa0 (am_ife e c) q))
theorem t_Shelf_hasPlaces_0 {d : Nat} {a0 : Nat} {x1 : Int32} {x2 : Int32} {h : am_H} {Q : am_Q} {res : Bool} (sa0 : am_shf a0) (e : f_Shelf_hasPlaces h a0 x1 x2 = res) (q : Q (some (.int (am_b res))) h) : am_W (X_Shelf_hasPlaces d) 0 [some (.ref a0), some (.int x1), some (.int x2)] [] h Q :=
  b_Shelf_hasPlaces_0 (d := d) (sa0 := sa0) (kt := fun c => (t_Shelf_hasPlaces_30 sa0 (am_ift e c) q)) (kf := fun c => (t_Shelf_hasPlaces_4 sa0 (am_ife e c) q))
theorem c_Shelf_hasPlaces {d : Nat} {a0 : Nat} {x1 : Int32} {x2 : Int32} {h : am_H} {Q : am_Q} {res : Bool} (sa0 : am_shf a0) (e : f_Shelf_hasPlaces h a0 x1 x2 = res) (q : Q (some (.int (am_b res))) h) : m_Shelf_hasPlaces d [.ref a0, .int x1, .int x2] h Q :=
  e_Shelf_hasPlaces (t_Shelf_hasPlaces_0 sa0 e q)
theorem d_Shelf_read_0 : decode prog_9_method_13_code 0 = .ok (.iload_n 1, 1) := by decide +kernel
theorem d_Shelf_read_1 : decode prog_9_method_13_code 1 = .ok (.ifCond .lt 26, 3) := by decide +kernel
theorem d_Shelf_read_4 : decode prog_9_method_13_code 4 = .ok (.iload_n 1, 1) := by decide +kernel
theorem d_Shelf_read_5 : decode prog_9_method_13_code 5 = .ok (.aload_n 0, 1) := by decide +kernel
theorem d_Shelf_read_6 : decode prog_9_method_13_code 6 = .ok (.getfield 20, 3) := by decide +kernel
theorem d_Shelf_read_9 : decode prog_9_method_13_code 9 = .ok (.if_icmp .ge 18, 3) := by decide +kernel
theorem d_Shelf_read_12 : decode prog_9_method_13_code 12 = .ok (.iload_n 1, 1) := by decide +kernel
theorem d_Shelf_read_13 : decode prog_9_method_13_code 13 = .ok (.bipush 60, 2) := by decide +kernel
theorem d_Shelf_read_15 : decode prog_9_method_13_code 15 = .ok (.if_icmp .ge 12, 3) := by decide +kernel
theorem d_Shelf_read_18 : decode prog_9_method_13_code 18 = .ok (.aload_n 0, 1) := by decide +kernel
theorem d_Shelf_read_19 : decode prog_9_method_13_code 19 = .ok (.getfield 9, 3) := by decide +kernel
theorem d_Shelf_read_22 : decode prog_9_method_13_code 22 = .ok (.iload_n 1, 1) := by decide +kernel
theorem d_Shelf_read_23 : decode prog_9_method_13_code 23 = .ok (.laload, 1) := by decide +kernel
theorem d_Shelf_read_24 : decode prog_9_method_13_code 24 = .ok (.goto 4, 3) := by decide +kernel
theorem d_Shelf_read_27 : decode prog_9_method_13_code 27 = .ok (.lconst 0, 1) := by decide +kernel
theorem d_Shelf_read_28 : decode prog_9_method_13_code 28 = .ok (.lreturn, 1) := by decide +kernel
theorem b_Shelf_read_0 {d : Nat} {a0 : Nat} {x1 : Int32} {h : am_H} {Q : am_Q} (sa0 : am_shf a0) (kt : x1 < 0 → am_W (X_Shelf_read d) 27 [some (.ref a0), some (.int x1)] [] h Q) (kf : ¬ x1 < 0 → am_W (X_Shelf_read d) 4 [some (.ref a0), some (.int x1)] [] h Q) : am_W (X_Shelf_read d) 0 [some (.ref a0), some (.int x1)] [] h Q :=
  am_iload_n d_Shelf_read_0 rfl (i := 1) rfl <|
    am_if_lt (tgt := 27) d_Shelf_read_1 (by decide) kt kf
theorem b_Shelf_read_4 {d : Nat} {a0 : Nat} {x1 : Int32} {h : am_H} {Q : am_Q} (sa0 : am_shf a0) (kt : (h.1 a0 3) ≤ x1 → am_W (X_Shelf_read d) 27 [some (.ref a0), some (.int x1)] [] h Q) (kf : ¬ (h.1 a0 3) ≤ x1 → am_W (X_Shelf_read d) 12 [some (.ref a0), some (.int x1)] [] h Q) : am_W (X_Shelf_read d) 4 [some (.ref a0), some (.int x1)] [] h Q :=
  am_iload_n d_Shelf_read_4 rfl (i := 1) rfl <|
    am_aload_n d_Shelf_read_5 rfl (i := 0) rfl <|
    am_getI (ci := 9) (i := 3) rfl sa0.1 rfl (Nat.le_of_ble_eq_true rfl) w_352 d_Shelf_read_6 <|
    am_icmp_ge (tgt := 27) d_Shelf_read_9 (by decide) kt kf
theorem b_Shelf_read_12 {d : Nat} {a0 : Nat} {x1 : Int32} {h : am_H} {Q : am_Q} (sa0 : am_shf a0) (kt : 60 ≤ x1 → am_W (X_Shelf_read d) 27 [some (.ref a0), some (.int x1)] [] h Q) (kf : ¬ 60 ≤ x1 → am_W (X_Shelf_read d) 18 [some (.ref a0), some (.int x1)] [] h Q) : am_W (X_Shelf_read d) 12 [some (.ref a0), some (.int x1)] [] h Q :=
  am_iload_n d_Shelf_read_12 rfl (i := 1) rfl <|
    am_bipush (v := 60) d_Shelf_read_13 (by decide) <|
    am_icmp_ge (tgt := 27) d_Shelf_read_15 (by decide) kt kf
theorem b_Shelf_read_18 {d : Nat} {a0 : Nat} {x1 : Int32} {h : am_H} {Q : am_Q} (sa0 : am_shf a0) (q0 : vp_in x1 60) (q : Q (some (.long (h.2 (a0 + 1) x1.toNatClampNeg))) h) : am_W (X_Shelf_read d) 18 [some (.ref a0), some (.int x1)] [] h Q :=
  am_aload_n d_Shelf_read_18 rfl (i := 0) rfl <|
    am_getR (ci := 9) (i := 0) rfl sa0.1 rfl (Nat.le_of_ble_eq_true rfl) w_349 d_Shelf_read_19 <|
    am_iload_n d_Shelf_read_22 rfl (i := 1) rfl <|
    am_lald sa0.2 q0 d_Shelf_read_23 <|
    am_goto (tgt := 28) d_Shelf_read_24 (by decide) <|
    am_lret rfl d_Shelf_read_28 q
theorem b_Shelf_read_27 {d : Nat} {a0 : Nat} {x1 : Int32} {h : am_H} {Q : am_Q} (sa0 : am_shf a0) (q : Q (some (.long 0)) h) : am_W (X_Shelf_read d) 27 [some (.ref a0), some (.int x1)] [] h Q :=
  am_lconst (v := 0) d_Shelf_read_27 (by decide) <|
    am_lret rfl d_Shelf_read_28 q
theorem t_Shelf_read_27 {d : Nat} {a0 : Nat} {x1 : Int32} {h : am_H} {Q : am_Q} {res : Int64} (sa0 : am_shf a0) (e : f_Shelf_read_27 h = some res) (q : Q (some (.long res)) h) : am_W (X_Shelf_read d) 27 [some (.ref a0), some (.int x1)] [] h Q :=
  b_Shelf_read_27 (d := d) (sa0 := sa0) (q := (am_rJp (v := 0) e q))
theorem t_Shelf_read_18 {d : Nat} {a0 : Nat} {x1 : Int32} {h : am_H} {Q : am_Q} {res : Int64} (sa0 : am_shf a0) (e : f_Shelf_read_18 h a0 x1 = some res) (q : Q (some (.long res)) h) : am_W (X_Shelf_read d) 18 [some (.ref a0), some (.int x1)] [] h Q :=
  b_Shelf_read_18 (d := d) (q0 := (am_okv (am_gd e))) (sa0 := sa0) (q := (am_rJp (v := (h.2 (a0 + 1) x1.toNatClampNeg)) (am_ga e) q))
theorem t_Shelf_read_12 {d : Nat} {a0 : Nat} {x1 : Int32} {h : am_H} {Q : am_Q} {res : Int64} (sa0 : am_shf a0) (e : f_Shelf_read_12 h a0 x1 = some res) (q : Q (some (.long res)) h) : am_W (X_Shelf_read d) 12 [some (.ref a0), some (.int x1)] [] h Q :=
  b_Shelf_read_12 (d := d) (sa0 := sa0) (kt := fun c => (t_Shelf_read_27 sa0 (am_ift e c) q)) (kf := fun c => (t_Shelf_read_18 sa0 (am_ife e c) q))
theorem t_Shelf_read_4 {d : Nat} {a0 : Nat} {x1 : Int32} {h : am_H} {Q : am_Q} {res : Int64} (sa0 : am_shf a0) (e : f_Shelf_read_4 h a0 x1 = some res) (q : Q (some (.long res)) h) : am_W (X_Shelf_read d) 4 [some (.ref a0), some (.int x1)] [] h Q :=
  b_Shelf_read_4 (d := d) (sa0 := sa0) (kt := fun c => (t_Shelf_read_27 sa0 (am_ift e c) q)) (kf := fun c => (t_Shelf_read_12 sa0 (am_ife e c) q))
theorem t_Shelf_read_0 {d : Nat} {a0 : Nat} {x1 : Int32} {h : am_H} {Q : am_Q} {res : Int64} (sa0 : am_shf a0) (e : f_Shelf_read h a0 x1 = some res) (q : Q (some (.long res)) h) : am_W (X_Shelf_read d) 0 [some (.ref a0), some (.int x1)] [] h Q :=
  b_Shelf_read_0 (d := d) (sa0 := sa0) (kt := fun c => (t_Shelf_read_27 sa0 (am_ift e c) q)) (kf := fun c => (t_Shelf_read_4 sa0 (am_ife e c) q))
theorem c_Shelf_read {d : Nat} {a0 : Nat} {x1 : Int32} {h : am_H} {Q : am_Q} {res : Int64} (sa0 : am_shf a0) (e : f_Shelf_read h a0 x1 = some res) (q : Q (some (.long res)) h) : m_Shelf_read d [.ref a0, .int x1] h Q :=
  e_Shelf_read (t_Shelf_read_0 sa0 e q)
theorem d_Hole_addClubs_0 : decode prog_5_method_14_code 0 = .ok (.iconst 0, 1) := by decide +kernel
theorem d_Hole_addClubs_1 : decode prog_5_method_14_code 1 = .ok (.istore 4, 2) := by decide +kernel
theorem d_Hole_addClubs_3 : decode prog_5_method_14_code 3 = .ok (.iload 4, 2) := by decide +kernel
theorem d_Hole_addClubs_5 : decode prog_5_method_14_code 5 = .ok (.iload_n 3, 1) := by decide +kernel
theorem d_Hole_addClubs_6 : decode prog_5_method_14_code 6 = .ok (.if_icmp .ge 105, 3) := by decide +kernel
theorem d_Hole_addClubs_9 : decode prog_5_method_14_code 9 = .ok (.iload 4, 2) := by decide +kernel
theorem d_Hole_addClubs_11 : decode prog_5_method_14_code 11 = .ok (.bipush 6, 2) := by decide +kernel
theorem d_Hole_addClubs_13 : decode prog_5_method_14_code 13 = .ok (.if_icmp .ge 98, 3) := by decide +kernel
theorem d_Hole_addClubs_16 : decode prog_5_method_14_code 16 = .ok (.aload_n 0, 1) := by decide +kernel
theorem d_Hole_addClubs_17 : decode prog_5_method_14_code 17 = .ok (.invokevirtual 70, 3) := by decide +kernel
theorem d_Hole_addClubs_20 : decode prog_5_method_14_code 20 = .ok (.ifCond .ne 17, 3) := by decide +kernel
theorem d_Hole_addClubs_23 : decode prog_5_method_14_code 23 = .ok (.aload_n 1, 1) := by decide +kernel
theorem d_Hole_addClubs_24 : decode prog_5_method_14_code 24 = .ok (.iload_n 2, 1) := by decide +kernel
theorem d_Hole_addClubs_25 : decode prog_5_method_14_code 25 = .ok (.iconst 3, 1) := by decide +kernel
theorem d_Hole_addClubs_26 : decode prog_5_method_14_code 26 = .ok (.iload 4, 2) := by decide +kernel
theorem d_Hole_addClubs_28 : decode prog_5_method_14_code 28 = .ok (.imul, 1) := by decide +kernel
theorem d_Hole_addClubs_29 : decode prog_5_method_14_code 29 = .ok (.iconst 3, 1) := by decide +kernel
theorem d_Hole_addClubs_30 : decode prog_5_method_14_code 30 = .ok (.iadd, 1) := by decide +kernel
theorem d_Hole_addClubs_31 : decode prog_5_method_14_code 31 = .ok (.invokevirtual 74, 3) := by decide +kernel
theorem d_Hole_addClubs_34 : decode prog_5_method_14_code 34 = .ok (.ifCond .ne 6, 3) := by decide +kernel
theorem d_Hole_addClubs_37 : decode prog_5_method_14_code 37 = .ok (.iload 4, 2) := by decide +kernel
theorem d_Hole_addClubs_39 : decode prog_5_method_14_code 39 = .ok (.ireturn, 1) := by decide +kernel
theorem d_Hole_addClubs_40 : decode prog_5_method_14_code 40 = .ok (.iload_n 2, 1) := by decide +kernel
theorem d_Hole_addClubs_41 : decode prog_5_method_14_code 41 = .ok (.iconst 3, 1) := by decide +kernel
theorem d_Hole_addClubs_42 : decode prog_5_method_14_code 42 = .ok (.iload 4, 2) := by decide +kernel
theorem d_Hole_addClubs_44 : decode prog_5_method_14_code 44 = .ok (.imul, 1) := by decide +kernel
theorem d_Hole_addClubs_45 : decode prog_5_method_14_code 45 = .ok (.iadd, 1) := by decide +kernel
theorem d_Hole_addClubs_46 : decode prog_5_method_14_code 46 = .ok (.istore 5, 2) := by decide +kernel
theorem d_Hole_addClubs_48 : decode prog_5_method_14_code 48 = .ok (.aload_n 1, 1) := by decide +kernel
theorem d_Hole_addClubs_49 : decode prog_5_method_14_code 49 = .ok (.iload 5, 2) := by decide +kernel
theorem d_Hole_addClubs_51 : decode prog_5_method_14_code 51 = .ok (.invokevirtual 79, 3) := by decide +kernel
theorem d_Hole_addClubs_54 : decode prog_5_method_14_code 54 = .ok (.l2i, 1) := by decide +kernel
theorem d_Hole_addClubs_55 : decode prog_5_method_14_code 55 = .ok (.istore 6, 2) := by decide +kernel
theorem d_Hole_addClubs_57 : decode prog_5_method_14_code 57 = .ok (.aload_n 1, 1) := by decide +kernel
theorem d_Hole_addClubs_58 : decode prog_5_method_14_code 58 = .ok (.iload 5, 2) := by decide +kernel
theorem d_Hole_addClubs_60 : decode prog_5_method_14_code 60 = .ok (.iconst 1, 1) := by decide +kernel
theorem d_Hole_addClubs_61 : decode prog_5_method_14_code 61 = .ok (.iadd, 1) := by decide +kernel
theorem d_Hole_addClubs_62 : decode prog_5_method_14_code 62 = .ok (.invokevirtual 79, 3) := by decide +kernel
theorem d_Hole_addClubs_65 : decode prog_5_method_14_code 65 = .ok (.l2i, 1) := by decide +kernel
theorem d_Hole_addClubs_66 : decode prog_5_method_14_code 66 = .ok (.istore 7, 2) := by decide +kernel
theorem d_Hole_addClubs_68 : decode prog_5_method_14_code 68 = .ok (.aload_n 1, 1) := by decide +kernel
theorem d_Hole_addClubs_69 : decode prog_5_method_14_code 69 = .ok (.iload 5, 2) := by decide +kernel
theorem d_Hole_addClubs_71 : decode prog_5_method_14_code 71 = .ok (.iconst 2, 1) := by decide +kernel
theorem d_Hole_addClubs_72 : decode prog_5_method_14_code 72 = .ok (.iadd, 1) := by decide +kernel
theorem d_Hole_addClubs_73 : decode prog_5_method_14_code 73 = .ok (.invokevirtual 79, 3) := by decide +kernel
theorem d_Hole_addClubs_76 : decode prog_5_method_14_code 76 = .ok (.l2i, 1) := by decide +kernel
theorem d_Hole_addClubs_77 : decode prog_5_method_14_code 77 = .ok (.istore 8, 2) := by decide +kernel
theorem d_Hole_addClubs_79 : decode prog_5_method_14_code 79 = .ok (.iload 6, 2) := by decide +kernel
theorem d_Hole_addClubs_81 : decode prog_5_method_14_code 81 = .ok (.iload 7, 2) := by decide +kernel
theorem d_Hole_addClubs_83 : decode prog_5_method_14_code 83 = .ok (.iload 8, 2) := by decide +kernel
theorem d_Hole_addClubs_85 : decode prog_5_method_14_code 85 = .ok (.invokestatic 83, 3) := by decide +kernel
theorem d_Hole_addClubs_88 : decode prog_5_method_14_code 88 = .ok (.ifCond .ne 6, 3) := by decide +kernel
theorem d_Hole_addClubs_91 : decode prog_5_method_14_code 91 = .ok (.iload 4, 2) := by decide +kernel
theorem d_Hole_addClubs_93 : decode prog_5_method_14_code 93 = .ok (.ireturn, 1) := by decide +kernel
theorem d_Hole_addClubs_94 : decode prog_5_method_14_code 94 = .ok (.aload_n 0, 1) := by decide +kernel
theorem d_Hole_addClubs_95 : decode prog_5_method_14_code 95 = .ok (.iload 6, 2) := by decide +kernel
theorem d_Hole_addClubs_97 : decode prog_5_method_14_code 97 = .ok (.iload 7, 2) := by decide +kernel
theorem d_Hole_addClubs_99 : decode prog_5_method_14_code 99 = .ok (.iload 8, 2) := by decide +kernel
theorem d_Hole_addClubs_101 : decode prog_5_method_14_code 101 = .ok (.invokevirtual 87, 3) := by decide +kernel
theorem d_Hole_addClubs_104 : decode prog_5_method_14_code 104 = .ok (.pop, 1) := by decide +kernel
theorem d_Hole_addClubs_105 : decode prog_5_method_14_code 105 = .ok (.iinc 4 1, 3) := by decide +kernel
theorem d_Hole_addClubs_108 : decode prog_5_method_14_code 108 = .ok (.goto (-105), 3) := by decide +kernel
theorem d_Hole_addClubs_111 : decode prog_5_method_14_code 111 = .ok (.iload_n 3, 1) := by decide +kernel
theorem d_Hole_addClubs_112 : decode prog_5_method_14_code 112 = .ok (.bipush 6, 2) := by decide +kernel
theorem d_Hole_addClubs_114 : decode prog_5_method_14_code 114 = .ok (.invokestatic 91, 3) := by decide +kernel
theorem d_Hole_addClubs_117 : decode prog_5_method_14_code 117 = .ok (.ireturn, 1) := by decide +kernel
theorem b_Hole_addClubs_0 {d : Nat} {a1 : Nat} {x2 : Int32} {x3 : Int32} {h : am_H} {Q : am_Q} (sa1 : am_shf a1) (k : am_W (X_Hole_addClubs d) 3 [some (.ref 1), some (.ref a1), some (.int x2), some (.int x3), some (.int 0), none, none, none, none] [] h Q) : am_W (X_Hole_addClubs d) 0 [some (.ref 1), some (.ref a1), some (.int x2), some (.int x3), none, none, none, none, none] [] h Q :=
  am_iconst (v := 0) d_Hole_addClubs_0 (by decide) <|
    am_istore (ls' := [some (.ref 1), some (.ref a1), some (.int x2), some (.int x3), some (.int 0), none, none, none, none]) d_Hole_addClubs_1 (Nat.le_of_ble_eq_true rfl) rfl <|
    k
theorem b_Hole_addClubs_3 {d : Nat} {a1 : Nat} {x2 : Int32} {x3 : Int32} {x4 : Int32} {h : am_H} {Q : am_Q} (sa1 : am_shf a1) (kt : x3 ≤ x4 → am_W (X_Hole_addClubs d) 111 [some (.ref 1), some (.ref a1), some (.int x2), some (.int x3), some (.int x4), none, none, none, none] [] h Q) (kf : ¬ x3 ≤ x4 → am_W (X_Hole_addClubs d) 9 [some (.ref 1), some (.ref a1), some (.int x2), some (.int x3), some (.int x4), none, none, none, none] [] h Q) : am_W (X_Hole_addClubs d) 3 [some (.ref 1), some (.ref a1), some (.int x2), some (.int x3), some (.int x4), none, none, none, none] [] h Q :=
  am_iload d_Hole_addClubs_3 rfl <|
    am_iload_n d_Hole_addClubs_5 rfl (i := 3) rfl <|
    am_icmp_ge (tgt := 111) d_Hole_addClubs_6 (by decide) kt kf
theorem b_Hole_addClubs_9 {d : Nat} {a1 : Nat} {x2 : Int32} {x3 : Int32} {x4 : Int32} {h : am_H} {Q : am_Q} (sa1 : am_shf a1) (kt : 6 ≤ x4 → am_W (X_Hole_addClubs d) 111 [some (.ref 1), some (.ref a1), some (.int x2), some (.int x3), some (.int x4), none, none, none, none] [] h Q) (kf : ¬ 6 ≤ x4 → am_W (X_Hole_addClubs d) 16 [some (.ref 1), some (.ref a1), some (.int x2), some (.int x3), some (.int x4), none, none, none, none] [] h Q) : am_W (X_Hole_addClubs d) 9 [some (.ref 1), some (.ref a1), some (.int x2), some (.int x3), some (.int x4), none, none, none, none] [] h Q :=
  am_iload d_Hole_addClubs_9 rfl <|
    am_bipush (v := 6) d_Hole_addClubs_11 (by decide) <|
    am_icmp_ge (tgt := 111) d_Hole_addClubs_13 (by decide) kt kf
theorem b_Hole_addClubs_16 {d : Nat} {a1 : Nat} {x2 : Int32} {x3 : Int32} {x4 : Int32} {h : am_H} {Q : am_Q} (sa1 : am_shf a1) (k : m_Hole_isFull d [.ref 1] h (fun r hh => am_W (X_Hole_addClubs (d + 1)) 20 [some (.ref 1), some (.ref a1), some (.int x2), some (.int x3), some (.int x4), none, none, none, none] (r.toList ++ []) hh Q)) : am_W (X_Hole_addClubs (d + 1)) 16 [some (.ref 1), some (.ref a1), some (.int x2), some (.int x3), some (.int x4), none, none, none, none] [] h Q :=
  am_aload_n d_Hole_addClubs_16 rfl (i := 0) rfl <|
    am_callV (vs := []) (st := []) (k := 1) (ci := 1) rfl d_Hole_addClubs_17 rfl rfl w_446 w_405 w_406 w_84 w_407 p_Hole_isFull (Nat.le_of_ble_eq_true rfl) (Nat.le_of_ble_eq_true rfl) rfl k
theorem b_Hole_addClubs_20 {d : Nat} {a1 : Nat} {x2 : Int32} {x3 : Int32} {x4 : Int32} {y0 : Bool} {h : am_H} {Q : am_Q} (sa1 : am_shf a1) (kt : ¬ (am_b y0) = 0 → am_W (X_Hole_addClubs d) 37 [some (.ref 1), some (.ref a1), some (.int x2), some (.int x3), some (.int x4), none, none, none, none] [] h Q) (kf : (am_b y0) = 0 → am_W (X_Hole_addClubs d) 23 [some (.ref 1), some (.ref a1), some (.int x2), some (.int x3), some (.int x4), none, none, none, none] [] h Q) : am_W (X_Hole_addClubs d) 20 [some (.ref 1), some (.ref a1), some (.int x2), some (.int x3), some (.int x4), none, none, none, none] [.int (am_b y0)] h Q :=
  am_if_ne (tgt := 37) d_Hole_addClubs_20 (by decide) kt kf
theorem b_Hole_addClubs_23 {d : Nat} {a1 : Nat} {x2 : Int32} {x3 : Int32} {x4 : Int32} {h : am_H} {Q : am_Q} (sa1 : am_shf a1) (k : m_Shelf_hasPlaces d [.ref a1, .int x2, .int ((3 * x4) + 3)] h (fun r hh => am_W (X_Hole_addClubs (d + 1)) 34 [some (.ref 1), some (.ref a1), some (.int x2), some (.int x3), some (.int x4), none, none, none, none] (r.toList ++ []) hh Q)) : am_W (X_Hole_addClubs (d + 1)) 23 [some (.ref 1), some (.ref a1), some (.int x2), some (.int x3), some (.int x4), none, none, none, none] [] h Q :=
  am_aload_n d_Hole_addClubs_23 rfl (i := 1) rfl <|
    am_iload_n d_Hole_addClubs_24 rfl (i := 2) rfl <|
    am_iconst (v := 3) d_Hole_addClubs_25 (by decide) <|
    am_iload d_Hole_addClubs_26 rfl <|
    am_imul d_Hole_addClubs_28 <|
    am_iconst (v := 3) d_Hole_addClubs_29 (by decide) <|
    am_iadd d_Hole_addClubs_30 <|
    am_callV (vs := [.int x2, .int ((3 * x4) + 3)]) (st := []) (k := a1) (ci := 9) rfl d_Hole_addClubs_31 rfl sa1.1 w_447 w_448 w_449 w_93 w_450 p_Shelf_hasPlaces (Nat.le_of_ble_eq_true rfl) (Nat.le_of_ble_eq_true rfl) rfl k
theorem b_Hole_addClubs_34 {d : Nat} {a1 : Nat} {x2 : Int32} {x3 : Int32} {x4 : Int32} {y0 : Bool} {h : am_H} {Q : am_Q} (sa1 : am_shf a1) (kt : ¬ (am_b y0) = 0 → am_W (X_Hole_addClubs d) 40 [some (.ref 1), some (.ref a1), some (.int x2), some (.int x3), some (.int x4), none, none, none, none] [] h Q) (kf : (am_b y0) = 0 → am_W (X_Hole_addClubs d) 37 [some (.ref 1), some (.ref a1), some (.int x2), some (.int x3), some (.int x4), none, none, none, none] [] h Q) : am_W (X_Hole_addClubs d) 34 [some (.ref 1), some (.ref a1), some (.int x2), some (.int x3), some (.int x4), none, none, none, none] [.int (am_b y0)] h Q :=
  am_if_ne (tgt := 40) d_Hole_addClubs_34 (by decide) kt kf
theorem b_Hole_addClubs_37 {d : Nat} {a1 : Nat} {x2 : Int32} {x3 : Int32} {x4 : Int32} {h : am_H} {Q : am_Q} (sa1 : am_shf a1) (q : Q (some (.int x4)) h) : am_W (X_Hole_addClubs d) 37 [some (.ref 1), some (.ref a1), some (.int x2), some (.int x3), some (.int x4), none, none, none, none] [] h Q :=
  am_iload d_Hole_addClubs_37 rfl <|
    am_iret rfl d_Hole_addClubs_39 q
theorem b_Hole_addClubs_40 {d : Nat} {a1 : Nat} {x2 : Int32} {x3 : Int32} {x4 : Int32} {h : am_H} {Q : am_Q} (sa1 : am_shf a1) (k : m_Shelf_read d [.ref a1, .int (x2 + (3 * x4))] h (fun r hh => am_W (X_Hole_addClubs (d + 1)) 54 [some (.ref 1), some (.ref a1), some (.int x2), some (.int x3), some (.int x4), some (.int (x2 + (3 * x4))), none, none, none] (r.toList ++ []) hh Q)) : am_W (X_Hole_addClubs (d + 1)) 40 [some (.ref 1), some (.ref a1), some (.int x2), some (.int x3), some (.int x4), none, none, none, none] [] h Q :=
  am_iload_n d_Hole_addClubs_40 rfl (i := 2) rfl <|
    am_iconst (v := 3) d_Hole_addClubs_41 (by decide) <|
    am_iload d_Hole_addClubs_42 rfl <|
    am_imul d_Hole_addClubs_44 <|
    am_iadd d_Hole_addClubs_45 <|
    am_istore (ls' := [some (.ref 1), some (.ref a1), some (.int x2), some (.int x3), some (.int x4), some (.int (x2 + (3 * x4))), none, none, none]) d_Hole_addClubs_46 (Nat.le_of_ble_eq_true rfl) rfl <|
    am_aload_n d_Hole_addClubs_48 rfl (i := 1) rfl <|
    am_iload d_Hole_addClubs_49 rfl <|
    am_callV (vs := [.int (x2 + (3 * x4))]) (st := []) (k := a1) (ci := 9) rfl d_Hole_addClubs_51 rfl sa1.1 w_451 w_452 w_453 w_93 w_454 p_Shelf_read (Nat.le_of_ble_eq_true rfl) (Nat.le_of_ble_eq_true rfl) rfl k
theorem b_Hole_addClubs_54 {d : Nat} {a1 : Nat} {x2 : Int32} {x3 : Int32} {x4 : Int32} {x5 : Int32} {y0 : Int64} {h : am_H} {Q : am_Q} (sa1 : am_shf a1) (k : m_Shelf_read d [.ref a1, .int (x5 + 1)] h (fun r hh => am_W (X_Hole_addClubs (d + 1)) 65 [some (.ref 1), some (.ref a1), some (.int x2), some (.int x3), some (.int x4), some (.int x5), some (.int y0.toInt32), none, none] (r.toList ++ []) hh Q)) : am_W (X_Hole_addClubs (d + 1)) 54 [some (.ref 1), some (.ref a1), some (.int x2), some (.int x3), some (.int x4), some (.int x5), none, none, none] [.long y0] h Q :=
  am_l2i d_Hole_addClubs_54 <|
    am_istore (ls' := [some (.ref 1), some (.ref a1), some (.int x2), some (.int x3), some (.int x4), some (.int x5), some (.int y0.toInt32), none, none]) d_Hole_addClubs_55 (Nat.le_of_ble_eq_true rfl) rfl <|
    am_aload_n d_Hole_addClubs_57 rfl (i := 1) rfl <|
    am_iload d_Hole_addClubs_58 rfl <|
    am_iconst (v := 1) d_Hole_addClubs_60 (by decide) <|
    am_iadd d_Hole_addClubs_61 <|
    am_callV (vs := [.int (x5 + 1)]) (st := []) (k := a1) (ci := 9) rfl d_Hole_addClubs_62 rfl sa1.1 w_451 w_452 w_453 w_93 w_454 p_Shelf_read (Nat.le_of_ble_eq_true rfl) (Nat.le_of_ble_eq_true rfl) rfl k
theorem b_Hole_addClubs_65 {d : Nat} {a1 : Nat} {x2 : Int32} {x3 : Int32} {x4 : Int32} {x5 : Int32} {x6 : Int32} {y0 : Int64} {h : am_H} {Q : am_Q} (sa1 : am_shf a1) (k : m_Shelf_read d [.ref a1, .int (x5 + 2)] h (fun r hh => am_W (X_Hole_addClubs (d + 1)) 76 [some (.ref 1), some (.ref a1), some (.int x2), some (.int x3), some (.int x4), some (.int x5), some (.int x6), some (.int y0.toInt32), none] (r.toList ++ []) hh Q)) : am_W (X_Hole_addClubs (d + 1)) 65 [some (.ref 1), some (.ref a1), some (.int x2), some (.int x3), some (.int x4), some (.int x5), some (.int x6), none, none] [.long y0] h Q :=
  am_l2i d_Hole_addClubs_65 <|
    am_istore (ls' := [some (.ref 1), some (.ref a1), some (.int x2), some (.int x3), some (.int x4), some (.int x5), some (.int x6), some (.int y0.toInt32), none]) d_Hole_addClubs_66 (Nat.le_of_ble_eq_true rfl) rfl <|
    am_aload_n d_Hole_addClubs_68 rfl (i := 1) rfl <|
    am_iload d_Hole_addClubs_69 rfl <|
    am_iconst (v := 2) d_Hole_addClubs_71 (by decide) <|
    am_iadd d_Hole_addClubs_72 <|
    am_callV (vs := [.int (x5 + 2)]) (st := []) (k := a1) (ci := 9) rfl d_Hole_addClubs_73 rfl sa1.1 w_451 w_452 w_453 w_93 w_454 p_Shelf_read (Nat.le_of_ble_eq_true rfl) (Nat.le_of_ble_eq_true rfl) rfl k
theorem b_Hole_addClubs_76 {d : Nat} {a1 : Nat} {x2 : Int32} {x3 : Int32} {x4 : Int32} {x5 : Int32} {x6 : Int32} {x7 : Int32} {y0 : Int64} {h : am_H} {Q : am_Q} (sa1 : am_shf a1) (k : m_Hole_isClub d [.int x6, .int x7, .int y0.toInt32] h (fun r hh => am_W (X_Hole_addClubs (d + 1)) 88 [some (.ref 1), some (.ref a1), some (.int x2), some (.int x3), some (.int x4), some (.int x5), some (.int x6), some (.int x7), some (.int y0.toInt32)] (r.toList ++ []) hh Q)) : am_W (X_Hole_addClubs (d + 1)) 76 [some (.ref 1), some (.ref a1), some (.int x2), some (.int x3), some (.int x4), some (.int x5), some (.int x6), some (.int x7), none] [.long y0] h Q :=
  am_l2i d_Hole_addClubs_76 <|
    am_istore (ls' := [some (.ref 1), some (.ref a1), some (.int x2), some (.int x3), some (.int x4), some (.int x5), some (.int x6), some (.int x7), some (.int y0.toInt32)]) d_Hole_addClubs_77 (Nat.le_of_ble_eq_true rfl) rfl <|
    am_iload d_Hole_addClubs_79 rfl <|
    am_iload d_Hole_addClubs_81 rfl <|
    am_iload d_Hole_addClubs_83 rfl <|
    am_callS (vs := [.int x6, .int x7, .int y0.toInt32]) (st := []) rfl d_Hole_addClubs_85 w_455 w_395 w_84 w_396 p_Hole_isClub (Nat.le_of_ble_eq_true rfl) (Nat.le_of_ble_eq_true rfl) rfl k
theorem b_Hole_addClubs_88 {d : Nat} {a1 : Nat} {x2 : Int32} {x3 : Int32} {x4 : Int32} {x5 : Int32} {x6 : Int32} {x7 : Int32} {x8 : Int32} {y0 : Bool} {h : am_H} {Q : am_Q} (sa1 : am_shf a1) (kt : ¬ (am_b y0) = 0 → am_W (X_Hole_addClubs d) 94 [some (.ref 1), some (.ref a1), some (.int x2), some (.int x3), some (.int x4), some (.int x5), some (.int x6), some (.int x7), some (.int x8)] [] h Q) (kf : (am_b y0) = 0 → am_W (X_Hole_addClubs d) 91 [some (.ref 1), some (.ref a1), some (.int x2), some (.int x3), some (.int x4), some (.int x5), some (.int x6), some (.int x7), some (.int x8)] [] h Q) : am_W (X_Hole_addClubs d) 88 [some (.ref 1), some (.ref a1), some (.int x2), some (.int x3), some (.int x4), some (.int x5), some (.int x6), some (.int x7), some (.int x8)] [.int (am_b y0)] h Q :=
  am_if_ne (tgt := 94) d_Hole_addClubs_88 (by decide) kt kf
theorem b_Hole_addClubs_91 {d : Nat} {a1 : Nat} {x2 : Int32} {x3 : Int32} {x4 : Int32} {x5 : Int32} {x6 : Int32} {x7 : Int32} {x8 : Int32} {h : am_H} {Q : am_Q} (sa1 : am_shf a1) (q : Q (some (.int x4)) h) : am_W (X_Hole_addClubs d) 91 [some (.ref 1), some (.ref a1), some (.int x2), some (.int x3), some (.int x4), some (.int x5), some (.int x6), some (.int x7), some (.int x8)] [] h Q :=
  am_iload d_Hole_addClubs_91 rfl <|
    am_iret rfl d_Hole_addClubs_93 q
theorem b_Hole_addClubs_94 {d : Nat} {a1 : Nat} {x2 : Int32} {x3 : Int32} {x4 : Int32} {x5 : Int32} {x6 : Int32} {x7 : Int32} {x8 : Int32} {h : am_H} {Q : am_Q} (sa1 : am_shf a1) (k : m_Hole_addClub d [.ref 1, .int x6, .int x7, .int x8] h (fun r hh => am_W (X_Hole_addClubs (d + 1)) 104 [some (.ref 1), some (.ref a1), some (.int x2), some (.int x3), some (.int x4), some (.int x5), some (.int x6), some (.int x7), some (.int x8)] (r.toList ++ []) hh Q)) : am_W (X_Hole_addClubs (d + 1)) 94 [some (.ref 1), some (.ref a1), some (.int x2), some (.int x3), some (.int x4), some (.int x5), some (.int x6), some (.int x7), some (.int x8)] [] h Q :=
  am_aload_n d_Hole_addClubs_94 rfl (i := 0) rfl <|
    am_iload d_Hole_addClubs_95 rfl <|
    am_iload d_Hole_addClubs_97 rfl <|
    am_iload d_Hole_addClubs_99 rfl <|
    am_callV (vs := [.int x6, .int x7, .int x8]) (st := []) (k := 1) (ci := 1) rfl d_Hole_addClubs_101 rfl rfl w_456 w_424 w_425 w_84 w_426 p_Hole_addClub (Nat.le_of_ble_eq_true rfl) (Nat.le_of_ble_eq_true rfl) rfl k
theorem b_Hole_addClubs_104 {d : Nat} {a1 : Nat} {x2 : Int32} {x3 : Int32} {x4 : Int32} {x5 : Int32} {x6 : Int32} {x7 : Int32} {x8 : Int32} {y0 : Int32} {h : am_H} {Q : am_Q} (sa1 : am_shf a1) (k : am_W (X_Hole_addClubs d) 3 [some (.ref 1), some (.ref a1), some (.int x2), some (.int x3), some (.int (x4 + 1)), some (.int x5), some (.int x6), some (.int x7), some (.int x8)] [] h Q) : am_W (X_Hole_addClubs d) 104 [some (.ref 1), some (.ref a1), some (.int x2), some (.int x3), some (.int x4), some (.int x5), some (.int x6), some (.int x7), some (.int x8)] [.int y0] h Q :=
  am_popI d_Hole_addClubs_104 <|
    am_iinc (v := (x4 + 1)) (ls' := [some (.ref 1), some (.ref a1), some (.int x2), some (.int x3), some (.int (x4 + 1)), some (.int x5), some (.int x6), some (.int x7), some (.int x8)]) d_Hole_addClubs_105 rfl rfl (Nat.le_of_ble_eq_true rfl) rfl <|
    am_goto (tgt := 3) d_Hole_addClubs_108 (by decide) k
theorem b_Hole_addClubs_111 {d : Nat} {a1 : Nat} {x2 : Int32} {x3 : Int32} {x4 : Int32} {h : am_H} {Q : am_Q} (sa1 : am_shf a1) (q : Q (some (.int (if 6 < x3 then 6 else x3))) h) : am_W (X_Hole_addClubs d) 111 [some (.ref 1), some (.ref a1), some (.int x2), some (.int x3), some (.int x4), none, none, none, none] [] h Q :=
  am_iload_n d_Hole_addClubs_111 rfl (i := 3) rfl <|
    am_bipush (v := 6) d_Hole_addClubs_112 (by decide) <|
    am_mmin w_457 d_Hole_addClubs_114 (Nat.le_of_ble_eq_true rfl) <|
    am_iret rfl d_Hole_addClubs_117 q
theorem t_Hole_addClubs_111 {d : Nat} {a1 : Nat} {x2 : Int32} {x3 : Int32} {x4 : Int32} {h : am_H} {Q : am_Q} {res : Int32 × am_H} (sa1 : am_shf a1) (e : f_Hole_addClubs_111 h x3 = some res) (q : Q (some (.int res.1)) res.2) : am_W (X_Hole_addClubs (d + 2)) 111 [some (.ref 1), some (.ref a1), some (.int x2), some (.int x3), some (.int x4), none, none, none, none] [] h Q :=
  b_Hole_addClubs_111 (d := (d + 2)) (sa1 := sa1) (q := (am_rIpi (v := (if 6 < x3 then 6 else x3)) e q))
theorem t_Hole_addClubs_37 {d : Nat} {a1 : Nat} {x2 : Int32} {x3 : Int32} {x4 : Int32} {h : am_H} {Q : am_Q} {res : Int32 × am_H} (sa1 : am_shf a1) (e : f_Hole_addClubs_37 h x4 = some res) (q : Q (some (.int res.1)) res.2) : am_W (X_Hole_addClubs (d + 2)) 37 [some (.ref 1), some (.ref a1), some (.int x2), some (.int x3), some (.int x4), none, none, none, none] [] h Q :=
  b_Hole_addClubs_37 (d := (d + 2)) (sa1 := sa1) (q := (am_rIpi (v := x4) e q))
theorem t_Hole_addClubs_104 {d : Nat} {k3 : am_H → Nat → Int32 → Int32 → Int32 → Option (Int32 × am_H)} {a1 : Nat} {x2 : Int32} {x3 : Int32} {x4 : Int32} {x5 : Int32} {x6 : Int32} {x7 : Int32} {x8 : Int32} {y0 : Int32} {h : am_H} {Q : am_Q} {res : Int32 × am_H} (hk3 : ∀ (a1 : Nat) (x2 : Int32) (x3 : Int32) (x4 : Int32) (h : am_H), am_shf a1 → k3 h a1 x2 x3 x4 = some res → am_W (X_Hole_addClubs (d + 2)) 3 [some (.ref 1), some (.ref a1), some (.int x2), some (.int x3), some (.int x4), none, none, none, none] [] h Q) (sa1 : am_shf a1) (e : f_Hole_addClubs_104 k3 h a1 x2 x3 x4 y0 = some res) (q : Q (some (.int res.1)) res.2) : am_W (X_Hole_addClubs (d + 2)) 104 [some (.ref 1), some (.ref a1), some (.int x2), some (.int x3), some (.int x4), some (.int x5), some (.int x6), some (.int x7), some (.int x8)] [.int y0] h Q :=
  b_Hole_addClubs_104 (d := (d + 2)) (sa1 := sa1) (k := (am_wk2 (hk3 _ _ _ _ _ sa1 e) ⟨rfl, ⟨rfl, ⟨rfl, ⟨rfl, ⟨rfl, trivial⟩⟩⟩⟩⟩))
theorem t_Hole_addClubs_94 {d : Nat} {k3 : am_H → Nat → Int32 → Int32 → Int32 → Option (Int32 × am_H)} {a1 : Nat} {x2 : Int32} {x3 : Int32} {x4 : Int32} {x5 : Int32} {x6 : Int32} {x7 : Int32} {x8 : Int32} {h : am_H} {Q : am_Q} {res : Int32 × am_H} (hk3 : ∀ (a1 : Nat) (x2 : Int32) (x3 : Int32) (x4 : Int32) (h : am_H), am_shf a1 → k3 h a1 x2 x3 x4 = some res → am_W (X_Hole_addClubs (d + 2)) 3 [some (.ref 1), some (.ref a1), some (.int x2), some (.int x3), some (.int x4), none, none, none, none] [] h Q) (sa1 : am_shf a1) (e : f_Hole_addClubs_94 k3 h a1 x2 x3 x4 x6 x7 x8 = some res) (q : Q (some (.int res.1)) res.2) : am_W (X_Hole_addClubs (d + 2)) 94 [some (.ref 1), some (.ref a1), some (.int x2), some (.int x3), some (.int x4), some (.int x5), some (.int x6), some (.int x7), some (.int x8)] [] h Q :=
  (am_bd e).elim fun p hp => b_Hole_addClubs_94 (d := (d + 1)) (sa1 := sa1) (k := c_Hole_addClub (d := d + 1) hp.1 (t_Hole_addClubs_104 hk3 sa1 hp.2 q))
theorem t_Hole_addClubs_91 {d : Nat} {a1 : Nat} {x2 : Int32} {x3 : Int32} {x4 : Int32} {x5 : Int32} {x6 : Int32} {x7 : Int32} {x8 : Int32} {h : am_H} {Q : am_Q} {res : Int32 × am_H} (sa1 : am_shf a1) (e : f_Hole_addClubs_91 h x4 = some res) (q : Q (some (.int res.1)) res.2) : am_W (X_Hole_addClubs (d + 2)) 91 [some (.ref 1), some (.ref a1), some (.int x2), some (.int x3), some (.int x4), some (.int x5), some (.int x6), some (.int x7), some (.int x8)] [] h Q :=
  b_Hole_addClubs_91 (d := (d + 2)) (sa1 := sa1) (q := (am_rIpi (v := x4) e q))
theorem t_Hole_addClubs_88 {d : Nat} {k3 : am_H → Nat → Int32 → Int32 → Int32 → Option (Int32 × am_H)} {a1 : Nat} {x2 : Int32} {x3 : Int32} {x4 : Int32} {x5 : Int32} {x6 : Int32} {x7 : Int32} {x8 : Int32} {y0 : Bool} {h : am_H} {Q : am_Q} {res : Int32 × am_H} (hk3 : ∀ (a1 : Nat) (x2 : Int32) (x3 : Int32) (x4 : Int32) (h : am_H), am_shf a1 → k3 h a1 x2 x3 x4 = some res → am_W (X_Hole_addClubs (d + 2)) 3 [some (.ref 1), some (.ref a1), some (.int x2), some (.int x3), some (.int x4), none, none, none, none] [] h Q) (sa1 : am_shf a1) (e : f_Hole_addClubs_88 k3 h a1 x2 x3 x4 x6 x7 x8 y0 = some res) (q : Q (some (.int res.1)) res.2) : am_W (X_Hole_addClubs (d + 2)) 88 [some (.ref 1), some (.ref a1), some (.int x2), some (.int x3), some (.int x4), some (.int x5), some (.int x6), some (.int x7), some (.int x8)] [.int (am_b y0)] h Q :=
  b_Hole_addClubs_88 (d := (d + 2)) (sa1 := sa1) (kt := fun c => (t_Hole_addClubs_94 hk3 sa1 (am_ift e (am_bn c)) q)) (kf := fun c => (t_Hole_addClubs_91 sa1 (am_iff e (am_bz c)) q))
theorem t_Hole_addClubs_76 {d : Nat} {k3 : am_H → Nat → Int32 → Int32 → Int32 → Option (Int32 × am_H)} {a1 : Nat} {x2 : Int32} {x3 : Int32} {x4 : Int32} {x5 : Int32} {x6 : Int32} {x7 : Int32} {y0 : Int64} {h : am_H} {Q : am_Q} {res : Int32 × am_H} (hk3 : ∀ (a1 : Nat) (x2 : Int32) (x3 : Int32) (x4 : Int32) (h : am_H), am_shf a1 → k3 h a1 x2 x3 x4 = some res → am_W (X_Hole_addClubs (d + 2)) 3 [some (.ref 1), some (.ref a1), some (.int x2), some (.int x3), some (.int x4), none, none, none, none] [] h Q) (sa1 : am_shf a1) (e : f_Hole_addClubs_76 k3 h a1 x2 x3 x4 x6 x7 y0 = some res) (q : Q (some (.int res.1)) res.2) : am_W (X_Hole_addClubs (d + 2)) 76 [some (.ref 1), some (.ref a1), some (.int x2), some (.int x3), some (.int x4), some (.int x5), some (.int x6), some (.int x7), none] [.long y0] h Q :=
  (am_bd e).elim fun p hp => b_Hole_addClubs_76 (d := (d + 1)) (sa1 := sa1) (k := c_Hole_isClub (d := d) hp.1 (t_Hole_addClubs_88 hk3 sa1 hp.2 q))
theorem t_Hole_addClubs_65 {d : Nat} {k3 : am_H → Nat → Int32 → Int32 → Int32 → Option (Int32 × am_H)} {a1 : Nat} {x2 : Int32} {x3 : Int32} {x4 : Int32} {x5 : Int32} {x6 : Int32} {y0 : Int64} {h : am_H} {Q : am_Q} {res : Int32 × am_H} (hk3 : ∀ (a1 : Nat) (x2 : Int32) (x3 : Int32) (x4 : Int32) (h : am_H), am_shf a1 → k3 h a1 x2 x3 x4 = some res → am_W (X_Hole_addClubs (d + 2)) 3 [some (.ref 1), some (.ref a1), some (.int x2), some (.int x3), some (.int x4), none, none, none, none] [] h Q) (sa1 : am_shf a1) (e : f_Hole_addClubs_65 k3 h a1 x2 x3 x4 x5 x6 y0 = some res) (q : Q (some (.int res.1)) res.2) : am_W (X_Hole_addClubs (d + 2)) 65 [some (.ref 1), some (.ref a1), some (.int x2), some (.int x3), some (.int x4), some (.int x5), some (.int x6), none, none] [.long y0] h Q :=
  (am_bd e).elim fun p hp => b_Hole_addClubs_65 (d := (d + 1)) (sa1 := sa1) (k := c_Shelf_read (d := d + 1) sa1 hp.1 (t_Hole_addClubs_76 hk3 sa1 hp.2 q))
theorem t_Hole_addClubs_54 {d : Nat} {k3 : am_H → Nat → Int32 → Int32 → Int32 → Option (Int32 × am_H)} {a1 : Nat} {x2 : Int32} {x3 : Int32} {x4 : Int32} {x5 : Int32} {y0 : Int64} {h : am_H} {Q : am_Q} {res : Int32 × am_H} (hk3 : ∀ (a1 : Nat) (x2 : Int32) (x3 : Int32) (x4 : Int32) (h : am_H), am_shf a1 → k3 h a1 x2 x3 x4 = some res → am_W (X_Hole_addClubs (d + 2)) 3 [some (.ref 1), some (.ref a1), some (.int x2), some (.int x3), some (.int x4), none, none, none, none] [] h Q) (sa1 : am_shf a1) (e : f_Hole_addClubs_54 k3 h a1 x2 x3 x4 x5 y0 = some res) (q : Q (some (.int res.1)) res.2) : am_W (X_Hole_addClubs (d + 2)) 54 [some (.ref 1), some (.ref a1), some (.int x2), some (.int x3), some (.int x4), some (.int x5), none, none, none] [.long y0] h Q :=
  (am_bd e).elim fun p hp => b_Hole_addClubs_54 (d := (d + 1)) (sa1 := sa1) (k := c_Shelf_read (d := d + 1) sa1 hp.1 (t_Hole_addClubs_65 hk3 sa1 hp.2 q))
theorem t_Hole_addClubs_40 {d : Nat} {k3 : am_H → Nat → Int32 → Int32 → Int32 → Option (Int32 × am_H)} {a1 : Nat} {x2 : Int32} {x3 : Int32} {x4 : Int32} {h : am_H} {Q : am_Q} {res : Int32 × am_H} (hk3 : ∀ (a1 : Nat) (x2 : Int32) (x3 : Int32) (x4 : Int32) (h : am_H), am_shf a1 → k3 h a1 x2 x3 x4 = some res → am_W (X_Hole_addClubs (d + 2)) 3 [some (.ref 1), some (.ref a1), some (.int x2), some (.int x3), some (.int x4), none, none, none, none] [] h Q) (sa1 : am_shf a1) (e : f_Hole_addClubs_40 k3 h a1 x2 x3 x4 = some res) (q : Q (some (.int res.1)) res.2) : am_W (X_Hole_addClubs (d + 2)) 40 [some (.ref 1), some (.ref a1), some (.int x2), some (.int x3), some (.int x4), none, none, none, none] [] h Q :=
  (am_bd e).elim fun p hp => b_Hole_addClubs_40 (d := (d + 1)) (sa1 := sa1) (k := c_Shelf_read (d := d + 1) sa1 hp.1 (t_Hole_addClubs_54 hk3 sa1 hp.2 q))
theorem t_Hole_addClubs_34 {d : Nat} {k3 : am_H → Nat → Int32 → Int32 → Int32 → Option (Int32 × am_H)} {a1 : Nat} {x2 : Int32} {x3 : Int32} {x4 : Int32} {y0 : Bool} {h : am_H} {Q : am_Q} {res : Int32 × am_H} (hk3 : ∀ (a1 : Nat) (x2 : Int32) (x3 : Int32) (x4 : Int32) (h : am_H), am_shf a1 → k3 h a1 x2 x3 x4 = some res → am_W (X_Hole_addClubs (d + 2)) 3 [some (.ref 1), some (.ref a1), some (.int x2), some (.int x3), some (.int x4), none, none, none, none] [] h Q) (sa1 : am_shf a1) (e : f_Hole_addClubs_34 k3 h a1 x2 x3 x4 y0 = some res) (q : Q (some (.int res.1)) res.2) : am_W (X_Hole_addClubs (d + 2)) 34 [some (.ref 1), some (.ref a1), some (.int x2), some (.int x3), some (.int x4), none, none, none, none] [.int (am_b y0)] h Q :=
  b_Hole_addClubs_34 (d := (d + 2)) (sa1 := sa1) (kt := fun c => (t_Hole_addClubs_40 hk3 sa1 (am_ift e (am_bn c)) q)) (kf := fun c => (t_Hole_addClubs_37 sa1 (am_iff e (am_bz c)) q))
theorem t_Hole_addClubs_23 {d : Nat} {k3 : am_H → Nat → Int32 → Int32 → Int32 → Option (Int32 × am_H)} {a1 : Nat} {x2 : Int32} {x3 : Int32} {x4 : Int32} {h : am_H} {Q : am_Q} {res : Int32 × am_H} (hk3 : ∀ (a1 : Nat) (x2 : Int32) (x3 : Int32) (x4 : Int32) (h : am_H), am_shf a1 → k3 h a1 x2 x3 x4 = some res → am_W (X_Hole_addClubs (d + 2)) 3 [some (.ref 1), some (.ref a1), some (.int x2), some (.int x3), some (.int x4), none, none, none, none] [] h Q) (sa1 : am_shf a1) (e : f_Hole_addClubs_23 k3 h a1 x2 x3 x4 = some res) (q : Q (some (.int res.1)) res.2) : am_W (X_Hole_addClubs (d + 2)) 23 [some (.ref 1), some (.ref a1), some (.int x2), some (.int x3), some (.int x4), none, none, none, none] [] h Q :=
  b_Hole_addClubs_23 (d := (d + 1)) (sa1 := sa1) (k := c_Shelf_hasPlaces (d := d + 1) sa1 rfl (t_Hole_addClubs_34 hk3 sa1 e q))
theorem t_Hole_addClubs_20 {d : Nat} {k3 : am_H → Nat → Int32 → Int32 → Int32 → Option (Int32 × am_H)} {a1 : Nat} {x2 : Int32} {x3 : Int32} {x4 : Int32} {y0 : Bool} {h : am_H} {Q : am_Q} {res : Int32 × am_H} (hk3 : ∀ (a1 : Nat) (x2 : Int32) (x3 : Int32) (x4 : Int32) (h : am_H), am_shf a1 → k3 h a1 x2 x3 x4 = some res → am_W (X_Hole_addClubs (d + 2)) 3 [some (.ref 1), some (.ref a1), some (.int x2), some (.int x3), some (.int x4), none, none, none, none] [] h Q) (sa1 : am_shf a1) (e : f_Hole_addClubs_20 k3 h a1 x2 x3 x4 y0 = some res) (q : Q (some (.int res.1)) res.2) : am_W (X_Hole_addClubs (d + 2)) 20 [some (.ref 1), some (.ref a1), some (.int x2), some (.int x3), some (.int x4), none, none, none, none] [.int (am_b y0)] h Q :=
  b_Hole_addClubs_20 (d := (d + 2)) (sa1 := sa1) (kt := fun c => (t_Hole_addClubs_37 sa1 (am_ift e (am_bn c)) q)) (kf := fun c => (t_Hole_addClubs_23 hk3 sa1 (am_iff e (am_bz c)) q))
theorem t_Hole_addClubs_16 {d : Nat} {k3 : am_H → Nat → Int32 → Int32 → Int32 → Option (Int32 × am_H)} {a1 : Nat} {x2 : Int32} {x3 : Int32} {x4 : Int32} {h : am_H} {Q : am_Q} {res : Int32 × am_H} (hk3 : ∀ (a1 : Nat) (x2 : Int32) (x3 : Int32) (x4 : Int32) (h : am_H), am_shf a1 → k3 h a1 x2 x3 x4 = some res → am_W (X_Hole_addClubs (d + 2)) 3 [some (.ref 1), some (.ref a1), some (.int x2), some (.int x3), some (.int x4), none, none, none, none] [] h Q) (sa1 : am_shf a1) (e : f_Hole_addClubs_16 k3 h a1 x2 x3 x4 = some res) (q : Q (some (.int res.1)) res.2) : am_W (X_Hole_addClubs (d + 2)) 16 [some (.ref 1), some (.ref a1), some (.int x2), some (.int x3), some (.int x4), none, none, none, none] [] h Q :=
  b_Hole_addClubs_16 (d := (d + 1)) (sa1 := sa1) (k := c_Hole_isFull (d := d + 1) rfl (t_Hole_addClubs_20 hk3 sa1 e q))
theorem t_Hole_addClubs_9 {d : Nat} {k3 : am_H → Nat → Int32 → Int32 → Int32 → Option (Int32 × am_H)} {a1 : Nat} {x2 : Int32} {x3 : Int32} {x4 : Int32} {h : am_H} {Q : am_Q} {res : Int32 × am_H} (hk3 : ∀ (a1 : Nat) (x2 : Int32) (x3 : Int32) (x4 : Int32) (h : am_H), am_shf a1 → k3 h a1 x2 x3 x4 = some res → am_W (X_Hole_addClubs (d + 2)) 3 [some (.ref 1), some (.ref a1), some (.int x2), some (.int x3), some (.int x4), none, none, none, none] [] h Q) (sa1 : am_shf a1) (e : f_Hole_addClubs_9 k3 h a1 x2 x3 x4 = some res) (q : Q (some (.int res.1)) res.2) : am_W (X_Hole_addClubs (d + 2)) 9 [some (.ref 1), some (.ref a1), some (.int x2), some (.int x3), some (.int x4), none, none, none, none] [] h Q :=
  b_Hole_addClubs_9 (d := (d + 2)) (sa1 := sa1) (kt := fun c => (t_Hole_addClubs_111 sa1 (am_ift e c) q)) (kf := fun c => (t_Hole_addClubs_16 hk3 sa1 (am_ife e c) q))
theorem t_Hole_addClubs_3 {d : Nat} {k3 : am_H → Nat → Int32 → Int32 → Int32 → Option (Int32 × am_H)} {a1 : Nat} {x2 : Int32} {x3 : Int32} {x4 : Int32} {h : am_H} {Q : am_Q} {res : Int32 × am_H} (hk3 : ∀ (a1 : Nat) (x2 : Int32) (x3 : Int32) (x4 : Int32) (h : am_H), am_shf a1 → k3 h a1 x2 x3 x4 = some res → am_W (X_Hole_addClubs (d + 2)) 3 [some (.ref 1), some (.ref a1), some (.int x2), some (.int x3), some (.int x4), none, none, none, none] [] h Q) (sa1 : am_shf a1) (e : f_Hole_addClubs_3 k3 h a1 x2 x3 x4 = some res) (q : Q (some (.int res.1)) res.2) : am_W (X_Hole_addClubs (d + 2)) 3 [some (.ref 1), some (.ref a1), some (.int x2), some (.int x3), some (.int x4), none, none, none, none] [] h Q :=
  b_Hole_addClubs_3 (d := (d + 2)) (sa1 := sa1) (kt := fun c => (t_Hole_addClubs_111 sa1 (am_ift e c) q)) (kf := fun c => (t_Hole_addClubs_9 hk3 sa1 (am_ife e c) q))
theorem t_Hole_addClubs_3_l {d : Nat} {Q : am_Q} {res : Int32 × am_H} (q : Q (some (.int res.1)) res.2) : ∀ (n : Nat) (a1 : Nat) (x2 : Int32) (x3 : Int32) (x4 : Int32) (h : am_H), am_shf a1 → f_Hole_addClubs_3_l n h a1 x2 x3 x4 = some res → am_W (X_Hole_addClubs (d + 2)) 3 [some (.ref 1), some (.ref a1), some (.int x2), some (.int x3), some (.int x4), none, none, none, none] [] h Q := by
  intro n
  induction n with
  | zero => intro a1 x2 x3 x4 h sa1 e; exact am_nn e
  | succ n ih => intro a1 x2 x3 x4 h sa1 e; exact t_Hole_addClubs_3 (fun a1 x2 x3 x4 h sa1 e => ih a1 x2 x3 x4 h sa1 e) sa1 e q
theorem t_Hole_addClubs_0 {d : Nat} {a1 : Nat} {x2 : Int32} {x3 : Int32} {h : am_H} {Q : am_Q} {res : Int32 × am_H} (sa1 : am_shf a1) (e : f_Hole_addClubs h a1 x2 x3 = some res) (q : Q (some (.int res.1)) res.2) : am_W (X_Hole_addClubs (d + 2)) 0 [some (.ref 1), some (.ref a1), some (.int x2), some (.int x3), none, none, none, none, none] [] h Q :=
  b_Hole_addClubs_0 (d := (d + 2)) (sa1 := sa1) (k := (t_Hole_addClubs_3_l q am_fu _ _ _ _ _ sa1 e))
theorem c_Hole_addClubs {d : Nat} {a1 : Nat} {x2 : Int32} {x3 : Int32} {h : am_H} {Q : am_Q} {res : Int32 × am_H} (sa1 : am_shf a1) (e : f_Hole_addClubs h a1 x2 x3 = some res) (q : Q (some (.int res.1)) res.2) : m_Hole_addClubs (d + 2) [.ref 1, .ref a1, .int x2, .int x3] h Q :=
  e_Hole_addClubs (t_Hole_addClubs_0 sa1 e q)
theorem d_Shelf_isByteRow_0 : decode prog_9_method_8_code 0 = .ok (.aload_n 0, 1) := by decide +kernel
theorem d_Shelf_isByteRow_1 : decode prog_9_method_8_code 1 = .ok (.getfield 17, 3) := by decide +kernel
theorem d_Shelf_isByteRow_4 : decode prog_9_method_8_code 4 = .ok (.ifCond .ne 7, 3) := by decide +kernel
theorem d_Shelf_isByteRow_7 : decode prog_9_method_8_code 7 = .ok (.iconst 1, 1) := by decide +kernel
theorem d_Shelf_isByteRow_8 : decode prog_9_method_8_code 8 = .ok (.goto 4, 3) := by decide +kernel
theorem d_Shelf_isByteRow_11 : decode prog_9_method_8_code 11 = .ok (.iconst 0, 1) := by decide +kernel
theorem d_Shelf_isByteRow_12 : decode prog_9_method_8_code 12 = .ok (.ireturn, 1) := by decide +kernel
theorem b_Shelf_isByteRow_0 {d : Nat} {a0 : Nat} {h : am_H} {Q : am_Q} (sa0 : am_shf a0) (kt : ¬ (h.1 a0 2) = 0 → am_W (X_Shelf_isByteRow d) 11 [some (.ref a0)] [] h Q) (kf : (h.1 a0 2) = 0 → am_W (X_Shelf_isByteRow d) 7 [some (.ref a0)] [] h Q) : am_W (X_Shelf_isByteRow d) 0 [some (.ref a0)] [] h Q :=
  am_aload_n d_Shelf_isByteRow_0 rfl (i := 0) rfl <|
    am_getI (ci := 9) (i := 2) rfl sa0.1 rfl (Nat.le_of_ble_eq_true rfl) w_351 d_Shelf_isByteRow_1 <|
    am_if_ne (tgt := 11) d_Shelf_isByteRow_4 (by decide) kt kf
theorem b_Shelf_isByteRow_7 {d : Nat} {a0 : Nat} {h : am_H} {Q : am_Q} (sa0 : am_shf a0) (q : Q (some (.int 1)) h) : am_W (X_Shelf_isByteRow d) 7 [some (.ref a0)] [] h Q :=
  am_iconst (v := 1) d_Shelf_isByteRow_7 (by decide) <|
    am_goto (tgt := 12) d_Shelf_isByteRow_8 (by decide) <|
    am_zret (ty := .boolean) rfl (by decide) d_Shelf_isByteRow_12 q
theorem b_Shelf_isByteRow_11 {d : Nat} {a0 : Nat} {h : am_H} {Q : am_Q} (sa0 : am_shf a0) (q : Q (some (.int 0)) h) : am_W (X_Shelf_isByteRow d) 11 [some (.ref a0)] [] h Q :=
  am_iconst (v := 0) d_Shelf_isByteRow_11 (by decide) <|
    am_zret (ty := .boolean) rfl (by decide) d_Shelf_isByteRow_12 q
theorem t_Shelf_isByteRow_11 {d : Nat} {a0 : Nat} {h : am_H} {Q : am_Q} {res : Bool} (sa0 : am_shf a0) (e : f_Shelf_isByteRow_11 h = res) (q : Q (some (.int (am_b res))) h) : am_W (X_Shelf_isByteRow d) 11 [some (.ref a0)] [] h Q :=
  b_Shelf_isByteRow_11 (d := d) (sa0 := sa0) (q := (am_rZt (v := false) e q))
theorem t_Shelf_isByteRow_7 {d : Nat} {a0 : Nat} {h : am_H} {Q : am_Q} {res : Bool} (sa0 : am_shf a0) (e : f_Shelf_isByteRow_7 h = res) (q : Q (some (.int (am_b res))) h) : am_W (X_Shelf_isByteRow d) 7 [some (.ref a0)] [] h Q :=
  b_Shelf_isByteRow_7 (d := d) (sa0 := sa0) (q := (am_rZt (v := true) e q))
theorem t_Shelf_isByteRow_0 {d : Nat} {a0 : Nat} {h : am_H} {Q : am_Q} {res : Bool} (sa0 : am_shf a0) (e : f_Shelf_isByteRow h a0 = res) (q : Q (some (.int (am_b res))) h) : am_W (X_Shelf_isByteRow d) 0 [some (.ref a0)] [] h Q :=
  b_Shelf_isByteRow_0 (d := d) (sa0 := sa0) (kt := fun c => (t_Shelf_isByteRow_11 sa0 (am_ife e c) q)) (kf := fun c => (t_Shelf_isByteRow_7 sa0 (am_ift e c) q))
theorem c_Shelf_isByteRow {d : Nat} {a0 : Nat} {h : am_H} {Q : am_Q} {res : Bool} (sa0 : am_shf a0) (e : f_Shelf_isByteRow h a0 = res) (q : Q (some (.int (am_b res))) h) : m_Shelf_isByteRow d [.ref a0] h Q :=
  e_Shelf_isByteRow (t_Shelf_isByteRow_0 sa0 e q)
theorem d_Shelf_isEmpty_0 : decode prog_9_method_6_code 0 = .ok (.aload_n 0, 1) := by decide +kernel
theorem d_Shelf_isEmpty_1 : decode prog_9_method_6_code 1 = .ok (.getfield 13, 3) := by decide +kernel
theorem d_Shelf_isEmpty_4 : decode prog_9_method_6_code 4 = .ok (.iconst (-1), 1) := by decide +kernel
theorem d_Shelf_isEmpty_5 : decode prog_9_method_6_code 5 = .ok (.if_icmp .ne 15, 3) := by decide +kernel
theorem d_Shelf_isEmpty_8 : decode prog_9_method_6_code 8 = .ok (.aload_n 0, 1) := by decide +kernel
theorem d_Shelf_isEmpty_9 : decode prog_9_method_6_code 9 = .ok (.getfield 17, 3) := by decide +kernel
theorem d_Shelf_isEmpty_12 : decode prog_9_method_6_code 12 = .ok (.iconst (-1), 1) := by decide +kernel
theorem d_Shelf_isEmpty_13 : decode prog_9_method_6_code 13 = .ok (.if_icmp .ne 7, 3) := by decide +kernel
theorem d_Shelf_isEmpty_16 : decode prog_9_method_6_code 16 = .ok (.iconst 1, 1) := by decide +kernel
theorem d_Shelf_isEmpty_17 : decode prog_9_method_6_code 17 = .ok (.goto 4, 3) := by decide +kernel
theorem d_Shelf_isEmpty_20 : decode prog_9_method_6_code 20 = .ok (.iconst 0, 1) := by decide +kernel
theorem d_Shelf_isEmpty_21 : decode prog_9_method_6_code 21 = .ok (.ireturn, 1) := by decide +kernel
theorem b_Shelf_isEmpty_0 {d : Nat} {a0 : Nat} {h : am_H} {Q : am_Q} (sa0 : am_shf a0) (kt : ¬ (h.1 a0 1) = (-1) → am_W (X_Shelf_isEmpty d) 20 [some (.ref a0)] [] h Q) (kf : (h.1 a0 1) = (-1) → am_W (X_Shelf_isEmpty d) 8 [some (.ref a0)] [] h Q) : am_W (X_Shelf_isEmpty d) 0 [some (.ref a0)] [] h Q :=
  am_aload_n d_Shelf_isEmpty_0 rfl (i := 0) rfl <|
    am_getI (ci := 9) (i := 1) rfl sa0.1 rfl (Nat.le_of_ble_eq_true rfl) w_350 d_Shelf_isEmpty_1 <|
    am_iconst (v := (-1)) d_Shelf_isEmpty_4 (by decide) <|
    am_icmp_ne (tgt := 20) d_Shelf_isEmpty_5 (by decide) kt kf
theorem b_Shelf_isEmpty_8 {d : Nat} {a0 : Nat} {h : am_H} {Q : am_Q} (sa0 : am_shf a0) (kt : ¬ (h.1 a0 2) = (-1) → am_W (X_Shelf_isEmpty d) 20 [some (.ref a0)] [] h Q) (kf : (h.1 a0 2) = (-1) → am_W (X_Shelf_isEmpty d) 16 [some (.ref a0)] [] h Q) : am_W (X_Shelf_isEmpty d) 8 [some (.ref a0)] [] h Q :=
  am_aload_n d_Shelf_isEmpty_8 rfl (i := 0) rfl <|
    am_getI (ci := 9) (i := 2) rfl sa0.1 rfl (Nat.le_of_ble_eq_true rfl) w_351 d_Shelf_isEmpty_9 <|
    am_iconst (v := (-1)) d_Shelf_isEmpty_12 (by decide) <|
    am_icmp_ne (tgt := 20) d_Shelf_isEmpty_13 (by decide) kt kf
theorem b_Shelf_isEmpty_16 {d : Nat} {a0 : Nat} {h : am_H} {Q : am_Q} (sa0 : am_shf a0) (q : Q (some (.int 1)) h) : am_W (X_Shelf_isEmpty d) 16 [some (.ref a0)] [] h Q :=
  am_iconst (v := 1) d_Shelf_isEmpty_16 (by decide) <|
    am_goto (tgt := 21) d_Shelf_isEmpty_17 (by decide) <|
    am_zret (ty := .boolean) rfl (by decide) d_Shelf_isEmpty_21 q
theorem b_Shelf_isEmpty_20 {d : Nat} {a0 : Nat} {h : am_H} {Q : am_Q} (sa0 : am_shf a0) (q : Q (some (.int 0)) h) : am_W (X_Shelf_isEmpty d) 20 [some (.ref a0)] [] h Q :=
  am_iconst (v := 0) d_Shelf_isEmpty_20 (by decide) <|
    am_zret (ty := .boolean) rfl (by decide) d_Shelf_isEmpty_21 q
theorem t_Shelf_isEmpty_20 {d : Nat} {a0 : Nat} {h : am_H} {Q : am_Q} {res : Bool} (sa0 : am_shf a0) (e : f_Shelf_isEmpty_20 h = res) (q : Q (some (.int (am_b res))) h) : am_W (X_Shelf_isEmpty d) 20 [some (.ref a0)] [] h Q :=
  b_Shelf_isEmpty_20 (d := d) (sa0 := sa0) (q := (am_rZt (v := false) e q))
theorem t_Shelf_isEmpty_16 {d : Nat} {a0 : Nat} {h : am_H} {Q : am_Q} {res : Bool} (sa0 : am_shf a0) (e : f_Shelf_isEmpty_16 h = res) (q : Q (some (.int (am_b res))) h) : am_W (X_Shelf_isEmpty d) 16 [some (.ref a0)] [] h Q :=
  b_Shelf_isEmpty_16 (d := d) (sa0 := sa0) (q := (am_rZt (v := true) e q))
theorem t_Shelf_isEmpty_8 {d : Nat} {a0 : Nat} {h : am_H} {Q : am_Q} {res : Bool} (sa0 : am_shf a0) (e : f_Shelf_isEmpty_8 h a0 = res) (q : Q (some (.int (am_b res))) h) : am_W (X_Shelf_isEmpty d) 8 [some (.ref a0)] [] h Q :=
  b_Shelf_isEmpty_8 (d := d) (sa0 := sa0) (kt := fun c => (t_Shelf_isEmpty_20 sa0 (am_ife e c) q)) (kf := fun c => (t_Shelf_isEmpty_16 sa0 (am_ift e c) q))
theorem t_Shelf_isEmpty_0 {d : Nat} {a0 : Nat} {h : am_H} {Q : am_Q} {res : Bool} (sa0 : am_shf a0) (e : f_Shelf_isEmpty h a0 = res) (q : Q (some (.int (am_b res))) h) : am_W (X_Shelf_isEmpty d) 0 [some (.ref a0)] [] h Q :=
  b_Shelf_isEmpty_0 (d := d) (sa0 := sa0) (kt := fun c => (t_Shelf_isEmpty_20 sa0 (am_ife e c) q)) (kf := fun c => (t_Shelf_isEmpty_8 sa0 (am_ift e c) q))
theorem c_Shelf_isEmpty {d : Nat} {a0 : Nat} {h : am_H} {Q : am_Q} {res : Bool} (sa0 : am_shf a0) (e : f_Shelf_isEmpty h a0 = res) (q : Q (some (.int (am_b res))) h) : m_Shelf_isEmpty d [.ref a0] h Q :=
  e_Shelf_isEmpty (t_Shelf_isEmpty_0 sa0 e q)
theorem d_Club_clubs_0 : decode prog_1_method_3_code 0 = .ok (.iload_n 1, 1) := by decide +kernel
theorem d_Club_clubs_1 : decode prog_1_method_3_code 1 = .ok (.invokestatic 95, 3) := by decide +kernel
theorem d_Club_clubs_4 : decode prog_1_method_3_code 4 = .ok (.ifCond .eq 14, 3) := by decide +kernel
theorem d_Club_clubs_7 : decode prog_1_method_3_code 7 = .ok (.iload_n 3, 1) := by decide +kernel
theorem d_Club_clubs_8 : decode prog_1_method_3_code 8 = .ok (.iconst 1, 1) := by decide +kernel
theorem d_Club_clubs_9 : decode prog_1_method_3_code 9 = .ok (.if_icmp .lt 9, 3) := by decide +kernel
theorem d_Club_clubs_12 : decode prog_1_method_3_code 12 = .ok (.iload_n 3, 1) := by decide +kernel
theorem d_Club_clubs_13 : decode prog_1_method_3_code 13 = .ok (.bipush 6, 2) := by decide +kernel
theorem d_Club_clubs_15 : decode prog_1_method_3_code 15 = .ok (.if_icmp .le 5, 3) := by decide +kernel
theorem d_Club_clubs_18 : decode prog_1_method_3_code 18 = .ok (.iconst (-1), 1) := by decide +kernel
theorem d_Club_clubs_19 : decode prog_1_method_3_code 19 = .ok (.ireturn, 1) := by decide +kernel
theorem d_Club_clubs_20 : decode prog_1_method_3_code 20 = .ok (.aload_n 0, 1) := by decide +kernel
theorem d_Club_clubs_21 : decode prog_1_method_3_code 21 = .ok (.getfield 75, 3) := by decide +kernel
theorem d_Club_clubs_24 : decode prog_1_method_3_code 24 = .ok (.iload_n 1, 1) := by decide +kernel
theorem d_Club_clubs_25 : decode prog_1_method_3_code 25 = .ok (.aaload, 1) := by decide +kernel
theorem d_Club_clubs_26 : decode prog_1_method_3_code 26 = .ok (.astore 4, 2) := by decide +kernel
theorem d_Club_clubs_28 : decode prog_1_method_3_code 28 = .ok (.aload 4, 2) := by decide +kernel
theorem d_Club_clubs_30 : decode prog_1_method_3_code 30 = .ok (.invokevirtual 99, 3) := by decide +kernel
theorem d_Club_clubs_33 : decode prog_1_method_3_code 33 = .ok (.ifCond .eq 5, 3) := by decide +kernel
theorem d_Club_clubs_36 : decode prog_1_method_3_code 36 = .ok (.iconst 0, 1) := by decide +kernel
theorem d_Club_clubs_37 : decode prog_1_method_3_code 37 = .ok (.ireturn, 1) := by decide +kernel
theorem d_Club_clubs_38 : decode prog_1_method_3_code 38 = .ok (.aload 4, 2) := by decide +kernel
theorem d_Club_clubs_40 : decode prog_1_method_3_code 40 = .ok (.invokevirtual 102, 3) := by decide +kernel
theorem d_Club_clubs_43 : decode prog_1_method_3_code 43 = .ok (.ifCond .ne 6, 3) := by decide +kernel
theorem d_Club_clubs_46 : decode prog_1_method_3_code 46 = .ok (.bipush (-12), 2) := by decide +kernel
theorem d_Club_clubs_48 : decode prog_1_method_3_code 48 = .ok (.ireturn, 1) := by decide +kernel
theorem d_Club_clubs_49 : decode prog_1_method_3_code 49 = .ok (.aload_n 0, 1) := by decide +kernel
theorem d_Club_clubs_50 : decode prog_1_method_3_code 50 = .ok (.getfield 30, 3) := by decide +kernel
theorem d_Club_clubs_53 : decode prog_1_method_3_code 53 = .ok (.invokevirtual 88, 3) := by decide +kernel
theorem d_Club_clubs_56 : decode prog_1_method_3_code 56 = .ok (.aload_n 0, 1) := by decide +kernel
theorem d_Club_clubs_57 : decode prog_1_method_3_code 57 = .ok (.getfield 12, 3) := by decide +kernel
theorem d_Club_clubs_60 : decode prog_1_method_3_code 60 = .ok (.aload 4, 2) := by decide +kernel
theorem d_Club_clubs_62 : decode prog_1_method_3_code 62 = .ok (.iload_n 2, 1) := by decide +kernel
theorem d_Club_clubs_63 : decode prog_1_method_3_code 63 = .ok (.iload_n 3, 1) := by decide +kernel
theorem d_Club_clubs_64 : decode prog_1_method_3_code 64 = .ok (.invokevirtual 105, 3) := by decide +kernel
theorem d_Club_clubs_67 : decode prog_1_method_3_code 67 = .ok (.ireturn, 1) := by decide +kernel
theorem b_Club_clubs_0 {d : Nat} {x1 : Int32} {x2 : Int32} {x3 : Int32} {h : am_H} {Q : am_Q} (k : m_Club_isShelf d [.int x1] h (fun r hh => am_W (X_Club_clubs (d + 1)) 4 [some (.ref 0), some (.int x1), some (.int x2), some (.int x3), none] (r.toList ++ []) hh Q)) : am_W (X_Club_clubs (d + 1)) 0 [some (.ref 0), some (.int x1), some (.int x2), some (.int x3), none] [] h Q :=
  am_iload_n d_Club_clubs_0 rfl (i := 1) rfl <|
    am_callS (vs := [.int x1]) (st := []) rfl d_Club_clubs_1 w_431 w_432 w_83 w_433 p_Club_isShelf (Nat.le_of_ble_eq_true rfl) (Nat.le_of_ble_eq_true rfl) rfl k
theorem b_Club_clubs_4 {d : Nat} {x1 : Int32} {x2 : Int32} {x3 : Int32} {y0 : Bool} {h : am_H} {Q : am_Q} (kt : (am_b y0) = 0 → am_W (X_Club_clubs d) 18 [some (.ref 0), some (.int x1), some (.int x2), some (.int x3), none] [] h Q) (kf : ¬ (am_b y0) = 0 → am_W (X_Club_clubs d) 7 [some (.ref 0), some (.int x1), some (.int x2), some (.int x3), none] [] h Q) : am_W (X_Club_clubs d) 4 [some (.ref 0), some (.int x1), some (.int x2), some (.int x3), none] [.int (am_b y0)] h Q :=
  am_if_eq (tgt := 18) d_Club_clubs_4 (by decide) kt kf
theorem b_Club_clubs_7 {d : Nat} {x1 : Int32} {x2 : Int32} {x3 : Int32} {h : am_H} {Q : am_Q} (kt : x3 < 1 → am_W (X_Club_clubs d) 18 [some (.ref 0), some (.int x1), some (.int x2), some (.int x3), none] [] h Q) (kf : ¬ x3 < 1 → am_W (X_Club_clubs d) 12 [some (.ref 0), some (.int x1), some (.int x2), some (.int x3), none] [] h Q) : am_W (X_Club_clubs d) 7 [some (.ref 0), some (.int x1), some (.int x2), some (.int x3), none] [] h Q :=
  am_iload_n d_Club_clubs_7 rfl (i := 3) rfl <|
    am_iconst (v := 1) d_Club_clubs_8 (by decide) <|
    am_icmp_lt (tgt := 18) d_Club_clubs_9 (by decide) kt kf
theorem b_Club_clubs_12 {d : Nat} {x1 : Int32} {x2 : Int32} {x3 : Int32} {h : am_H} {Q : am_Q} (kt : x3 ≤ 6 → am_W (X_Club_clubs d) 20 [some (.ref 0), some (.int x1), some (.int x2), some (.int x3), none] [] h Q) (kf : ¬ x3 ≤ 6 → am_W (X_Club_clubs d) 18 [some (.ref 0), some (.int x1), some (.int x2), some (.int x3), none] [] h Q) : am_W (X_Club_clubs d) 12 [some (.ref 0), some (.int x1), some (.int x2), some (.int x3), none] [] h Q :=
  am_iload_n d_Club_clubs_12 rfl (i := 3) rfl <|
    am_bipush (v := 6) d_Club_clubs_13 (by decide) <|
    am_icmp_le (tgt := 20) d_Club_clubs_15 (by decide) kt kf
theorem b_Club_clubs_18 {d : Nat} {x1 : Int32} {x2 : Int32} {x3 : Int32} {h : am_H} {Q : am_Q} (q : Q (some (.int (-1))) h) : am_W (X_Club_clubs d) 18 [some (.ref 0), some (.int x1), some (.int x2), some (.int x3), none] [] h Q :=
  am_iconst (v := (-1)) d_Club_clubs_18 (by decide) <|
    am_iret rfl d_Club_clubs_19 q
theorem b_Club_clubs_20 {d : Nat} {x1 : Int32} {x2 : Int32} {x3 : Int32} {h : am_H} {Q : am_Q} (q0 : vp_in x1 6) (k : m_Shelf_isEmpty d [.ref (am_shp x1)] h (fun r hh => am_W (X_Club_clubs (d + 1)) 33 [some (.ref 0), some (.int x1), some (.int x2), some (.int x3), some (.ref (am_shp x1))] (r.toList ++ []) hh Q)) : am_W (X_Club_clubs (d + 1)) 20 [some (.ref 0), some (.int x1), some (.int x2), some (.int x3), none] [] h Q :=
  am_aload_n d_Club_clubs_20 rfl (i := 0) rfl <|
    am_getR (ci := 0) (i := 8) rfl rfl rfl (Nat.le_of_ble_eq_true rfl) w_370 d_Club_clubs_21 <|
    am_iload_n d_Club_clubs_24 rfl (i := 1) rfl <|
    am_aald (q := am_shp x1) rfl q0 (am_shq q0) d_Club_clubs_25 <|
    am_astore (ls' := [some (.ref 0), some (.int x1), some (.int x2), some (.int x3), some (.ref (am_shp x1))]) d_Club_clubs_26 (Nat.le_of_ble_eq_true rfl) rfl <|
    am_aload d_Club_clubs_28 rfl <|
    am_callV (vs := []) (st := []) (k := (am_shp x1)) (ci := 9) rfl d_Club_clubs_30 rfl (am_shl q0).1 w_434 w_435 w_436 w_93 w_437 p_Shelf_isEmpty (Nat.le_of_ble_eq_true rfl) (Nat.le_of_ble_eq_true rfl) rfl k
theorem b_Club_clubs_33 {d : Nat} {x1 : Int32} {x2 : Int32} {x3 : Int32} {a4 : Nat} {y0 : Bool} {h : am_H} {Q : am_Q} (sa4 : am_shf a4) (kt : (am_b y0) = 0 → am_W (X_Club_clubs d) 38 [some (.ref 0), some (.int x1), some (.int x2), some (.int x3), some (.ref a4)] [] h Q) (kf : ¬ (am_b y0) = 0 → am_W (X_Club_clubs d) 36 [some (.ref 0), some (.int x1), some (.int x2), some (.int x3), some (.ref a4)] [] h Q) : am_W (X_Club_clubs d) 33 [some (.ref 0), some (.int x1), some (.int x2), some (.int x3), some (.ref a4)] [.int (am_b y0)] h Q :=
  am_if_eq (tgt := 38) d_Club_clubs_33 (by decide) kt kf
theorem b_Club_clubs_36 {d : Nat} {x1 : Int32} {x2 : Int32} {x3 : Int32} {a4 : Nat} {h : am_H} {Q : am_Q} (sa4 : am_shf a4) (q : Q (some (.int 0)) h) : am_W (X_Club_clubs d) 36 [some (.ref 0), some (.int x1), some (.int x2), some (.int x3), some (.ref a4)] [] h Q :=
  am_iconst (v := 0) d_Club_clubs_36 (by decide) <|
    am_iret rfl d_Club_clubs_37 q
theorem b_Club_clubs_38 {d : Nat} {x1 : Int32} {x2 : Int32} {x3 : Int32} {a4 : Nat} {h : am_H} {Q : am_Q} (sa4 : am_shf a4) (k : m_Shelf_isByteRow d [.ref a4] h (fun r hh => am_W (X_Club_clubs (d + 1)) 43 [some (.ref 0), some (.int x1), some (.int x2), some (.int x3), some (.ref a4)] (r.toList ++ []) hh Q)) : am_W (X_Club_clubs (d + 1)) 38 [some (.ref 0), some (.int x1), some (.int x2), some (.int x3), some (.ref a4)] [] h Q :=
  am_aload d_Club_clubs_38 rfl <|
    am_callV (vs := []) (st := []) (k := a4) (ci := 9) rfl d_Club_clubs_40 rfl sa4.1 w_438 w_439 w_440 w_93 w_441 p_Shelf_isByteRow (Nat.le_of_ble_eq_true rfl) (Nat.le_of_ble_eq_true rfl) rfl k
theorem b_Club_clubs_43 {d : Nat} {x1 : Int32} {x2 : Int32} {x3 : Int32} {a4 : Nat} {y0 : Bool} {h : am_H} {Q : am_Q} (sa4 : am_shf a4) (kt : ¬ (am_b y0) = 0 → am_W (X_Club_clubs d) 49 [some (.ref 0), some (.int x1), some (.int x2), some (.int x3), some (.ref a4)] [] h Q) (kf : (am_b y0) = 0 → am_W (X_Club_clubs d) 46 [some (.ref 0), some (.int x1), some (.int x2), some (.int x3), some (.ref a4)] [] h Q) : am_W (X_Club_clubs d) 43 [some (.ref 0), some (.int x1), some (.int x2), some (.int x3), some (.ref a4)] [.int (am_b y0)] h Q :=
  am_if_ne (tgt := 49) d_Club_clubs_43 (by decide) kt kf
theorem b_Club_clubs_46 {d : Nat} {x1 : Int32} {x2 : Int32} {x3 : Int32} {a4 : Nat} {h : am_H} {Q : am_Q} (sa4 : am_shf a4) (q : Q (some (.int (-12))) h) : am_W (X_Club_clubs d) 46 [some (.ref 0), some (.int x1), some (.int x2), some (.int x3), some (.ref a4)] [] h Q :=
  am_bipush (v := (-12)) d_Club_clubs_46 (by decide) <|
    am_iret rfl d_Club_clubs_48 q
theorem b_Club_clubs_49 {d : Nat} {x1 : Int32} {x2 : Int32} {x3 : Int32} {a4 : Nat} {h : am_H} {Q : am_Q} (sa4 : am_shf a4) (k : m_Reck_forget d [.ref 12] h (fun r hh => am_W (X_Club_clubs (d + 1)) 56 [some (.ref 0), some (.int x1), some (.int x2), some (.int x3), some (.ref a4)] (r.toList ++ []) hh Q)) : am_W (X_Club_clubs (d + 1)) 49 [some (.ref 0), some (.int x1), some (.int x2), some (.int x3), some (.ref a4)] [] h Q :=
  am_aload_n d_Club_clubs_49 rfl (i := 0) rfl <|
    am_getR (ci := 0) (i := 2) rfl rfl rfl (Nat.le_of_ble_eq_true rfl) w_364 d_Club_clubs_50 <|
    am_callV (vs := []) (st := []) (k := 12) (ci := 3) rfl d_Club_clubs_53 rfl rfl w_408 w_409 w_410 w_87 w_411 p_Reck_forget (Nat.le_of_ble_eq_true rfl) (Nat.le_of_ble_eq_true rfl) rfl k
theorem b_Club_clubs_56 {d : Nat} {x1 : Int32} {x2 : Int32} {x3 : Int32} {a4 : Nat} {h : am_H} {Q : am_Q} (sa4 : am_shf a4) (k : m_Hole_addClubs d [.ref 1, .ref a4, .int x2, .int x3] h (fun r hh => am_W (X_Club_clubs (d + 1)) 67 [some (.ref 0), some (.int x1), some (.int x2), some (.int x3), some (.ref a4)] (r.toList ++ []) hh Q)) : am_W (X_Club_clubs (d + 1)) 56 [some (.ref 0), some (.int x1), some (.int x2), some (.int x3), some (.ref a4)] [] h Q :=
  am_aload_n d_Club_clubs_56 rfl (i := 0) rfl <|
    am_getR (ci := 0) (i := 0) rfl rfl rfl (Nat.le_of_ble_eq_true rfl) w_362 d_Club_clubs_57 <|
    am_aload d_Club_clubs_60 rfl <|
    am_iload_n d_Club_clubs_62 rfl (i := 2) rfl <|
    am_iload_n d_Club_clubs_63 rfl (i := 3) rfl <|
    am_callV (vs := [.ref a4, .int x2, .int x3]) (st := []) (k := 1) (ci := 1) rfl d_Club_clubs_64 rfl rfl w_442 w_443 w_444 w_84 w_445 p_Hole_addClubs (Nat.le_of_ble_eq_true rfl) (Nat.le_of_ble_eq_true rfl) rfl k
theorem b_Club_clubs_67 {d : Nat} {x1 : Int32} {x2 : Int32} {x3 : Int32} {a4 : Nat} {y0 : Int32} {h : am_H} {Q : am_Q} (sa4 : am_shf a4) (q : Q (some (.int y0)) h) : am_W (X_Club_clubs d) 67 [some (.ref 0), some (.int x1), some (.int x2), some (.int x3), some (.ref a4)] [.int y0] h Q :=
  am_iret rfl d_Club_clubs_67 q
theorem t_Club_clubs_18 {d : Nat} {x1 : Int32} {x2 : Int32} {x3 : Int32} {h : am_H} {Q : am_Q} {res : Int32 × am_H} (e : f_Club_clubs_18 h = some res) (q : Q (some (.int res.1)) res.2) : am_W (X_Club_clubs (d + 3)) 18 [some (.ref 0), some (.int x1), some (.int x2), some (.int x3), none] [] h Q :=
  b_Club_clubs_18 (d := (d + 3)) (q := (am_rIpi (v := (-1)) e q))
theorem t_Club_clubs_67 {d : Nat} {x1 : Int32} {x2 : Int32} {x3 : Int32} {a4 : Nat} {y0 : Int32} {h : am_H} {Q : am_Q} {res : Int32 × am_H} (sa4 : am_shf a4) (e : f_Club_clubs_67 h y0 = some res) (q : Q (some (.int res.1)) res.2) : am_W (X_Club_clubs (d + 3)) 67 [some (.ref 0), some (.int x1), some (.int x2), some (.int x3), some (.ref a4)] [.int y0] h Q :=
  b_Club_clubs_67 (d := (d + 3)) (sa4 := sa4) (q := (am_rIpi (v := y0) e q))
theorem t_Club_clubs_56 {d : Nat} {x1 : Int32} {x2 : Int32} {x3 : Int32} {a4 : Nat} {h : am_H} {Q : am_Q} {res : Int32 × am_H} (sa4 : am_shf a4) (e : f_Club_clubs_56 h x2 x3 a4 = some res) (q : Q (some (.int res.1)) res.2) : am_W (X_Club_clubs (d + 3)) 56 [some (.ref 0), some (.int x1), some (.int x2), some (.int x3), some (.ref a4)] [] h Q :=
  (am_bd e).elim fun p hp => b_Club_clubs_56 (d := (d + 2)) (sa4 := sa4) (k := c_Hole_addClubs (d := d) sa4 hp.1 (t_Club_clubs_67 sa4 hp.2 q))
theorem t_Club_clubs_49 {d : Nat} {x1 : Int32} {x2 : Int32} {x3 : Int32} {a4 : Nat} {h : am_H} {Q : am_Q} {res : Int32 × am_H} (sa4 : am_shf a4) (e : f_Club_clubs_49 h x2 x3 a4 = some res) (q : Q (some (.int res.1)) res.2) : am_W (X_Club_clubs (d + 3)) 49 [some (.ref 0), some (.int x1), some (.int x2), some (.int x3), some (.ref a4)] [] h Q :=
  (am_bd e).elim fun p hp => b_Club_clubs_49 (d := (d + 2)) (sa4 := sa4) (k := c_Reck_forget (d := d) hp.1 (t_Club_clubs_56 sa4 hp.2 q))
theorem t_Club_clubs_46 {d : Nat} {x1 : Int32} {x2 : Int32} {x3 : Int32} {a4 : Nat} {h : am_H} {Q : am_Q} {res : Int32 × am_H} (sa4 : am_shf a4) (e : f_Club_clubs_46 h = some res) (q : Q (some (.int res.1)) res.2) : am_W (X_Club_clubs (d + 3)) 46 [some (.ref 0), some (.int x1), some (.int x2), some (.int x3), some (.ref a4)] [] h Q :=
  b_Club_clubs_46 (d := (d + 3)) (sa4 := sa4) (q := (am_rIpi (v := (-12)) e q))
theorem t_Club_clubs_43 {d : Nat} {x1 : Int32} {x2 : Int32} {x3 : Int32} {a4 : Nat} {y0 : Bool} {h : am_H} {Q : am_Q} {res : Int32 × am_H} (sa4 : am_shf a4) (e : f_Club_clubs_43 h x2 x3 a4 y0 = some res) (q : Q (some (.int res.1)) res.2) : am_W (X_Club_clubs (d + 3)) 43 [some (.ref 0), some (.int x1), some (.int x2), some (.int x3), some (.ref a4)] [.int (am_b y0)] h Q :=
  b_Club_clubs_43 (d := (d + 3)) (sa4 := sa4) (kt := fun c => (t_Club_clubs_49 sa4 (am_ift e (am_bn c)) q)) (kf := fun c => (t_Club_clubs_46 sa4 (am_iff e (am_bz c)) q))
theorem t_Club_clubs_38 {d : Nat} {x1 : Int32} {x2 : Int32} {x3 : Int32} {a4 : Nat} {h : am_H} {Q : am_Q} {res : Int32 × am_H} (sa4 : am_shf a4) (e : f_Club_clubs_38 h x2 x3 a4 = some res) (q : Q (some (.int res.1)) res.2) : am_W (X_Club_clubs (d + 3)) 38 [some (.ref 0), some (.int x1), some (.int x2), some (.int x3), some (.ref a4)] [] h Q :=
  b_Club_clubs_38 (d := (d + 2)) (sa4 := sa4) (k := c_Shelf_isByteRow (d := d + 2) sa4 rfl (t_Club_clubs_43 sa4 e q))
theorem t_Club_clubs_36 {d : Nat} {x1 : Int32} {x2 : Int32} {x3 : Int32} {a4 : Nat} {h : am_H} {Q : am_Q} {res : Int32 × am_H} (sa4 : am_shf a4) (e : f_Club_clubs_36 h = some res) (q : Q (some (.int res.1)) res.2) : am_W (X_Club_clubs (d + 3)) 36 [some (.ref 0), some (.int x1), some (.int x2), some (.int x3), some (.ref a4)] [] h Q :=
  b_Club_clubs_36 (d := (d + 3)) (sa4 := sa4) (q := (am_rIpi (v := 0) e q))
theorem t_Club_clubs_33 {d : Nat} {x1 : Int32} {x2 : Int32} {x3 : Int32} {a4 : Nat} {y0 : Bool} {h : am_H} {Q : am_Q} {res : Int32 × am_H} (sa4 : am_shf a4) (e : f_Club_clubs_33 h x2 x3 a4 y0 = some res) (q : Q (some (.int res.1)) res.2) : am_W (X_Club_clubs (d + 3)) 33 [some (.ref 0), some (.int x1), some (.int x2), some (.int x3), some (.ref a4)] [.int (am_b y0)] h Q :=
  b_Club_clubs_33 (d := (d + 3)) (sa4 := sa4) (kt := fun c => (t_Club_clubs_38 sa4 (am_iff e (am_bz c)) q)) (kf := fun c => (t_Club_clubs_36 sa4 (am_ift e (am_bn c)) q))
theorem t_Club_clubs_20 {d : Nat} {x1 : Int32} {x2 : Int32} {x3 : Int32} {h : am_H} {Q : am_Q} {res : Int32 × am_H} (e : f_Club_clubs_20 h x1 x2 x3 = some res) (q : Q (some (.int res.1)) res.2) : am_W (X_Club_clubs (d + 3)) 20 [some (.ref 0), some (.int x1), some (.int x2), some (.int x3), none] [] h Q :=
  b_Club_clubs_20 (d := (d + 2)) (q0 := (am_okv (am_gd e))) (k := c_Shelf_isEmpty (d := d + 2) (am_shl (am_okv (am_gd e))) rfl (t_Club_clubs_33 (am_shl (am_okv (am_gd e))) (am_ga e) q))
theorem t_Club_clubs_12 {d : Nat} {x1 : Int32} {x2 : Int32} {x3 : Int32} {h : am_H} {Q : am_Q} {res : Int32 × am_H} (e : f_Club_clubs_12 h x1 x2 x3 = some res) (q : Q (some (.int res.1)) res.2) : am_W (X_Club_clubs (d + 3)) 12 [some (.ref 0), some (.int x1), some (.int x2), some (.int x3), none] [] h Q :=
  b_Club_clubs_12 (d := (d + 3)) (kt := fun c => (t_Club_clubs_20 (am_ift e c) q)) (kf := fun c => (t_Club_clubs_18 (am_ife e c) q))
theorem t_Club_clubs_7 {d : Nat} {x1 : Int32} {x2 : Int32} {x3 : Int32} {h : am_H} {Q : am_Q} {res : Int32 × am_H} (e : f_Club_clubs_7 h x1 x2 x3 = some res) (q : Q (some (.int res.1)) res.2) : am_W (X_Club_clubs (d + 3)) 7 [some (.ref 0), some (.int x1), some (.int x2), some (.int x3), none] [] h Q :=
  b_Club_clubs_7 (d := (d + 3)) (kt := fun c => (t_Club_clubs_18 (am_ift e c) q)) (kf := fun c => (t_Club_clubs_12 (am_ife e c) q))
theorem t_Club_clubs_4 {d : Nat} {x1 : Int32} {x2 : Int32} {x3 : Int32} {y0 : Bool} {h : am_H} {Q : am_Q} {res : Int32 × am_H} (e : f_Club_clubs_4 h x1 x2 x3 y0 = some res) (q : Q (some (.int res.1)) res.2) : am_W (X_Club_clubs (d + 3)) 4 [some (.ref 0), some (.int x1), some (.int x2), some (.int x3), none] [.int (am_b y0)] h Q :=
  b_Club_clubs_4 (d := (d + 3)) (kt := fun c => (t_Club_clubs_18 (am_iff e (am_bz c)) q)) (kf := fun c => (t_Club_clubs_7 (am_ift e (am_bn c)) q))
theorem t_Club_clubs_0 {d : Nat} {x1 : Int32} {x2 : Int32} {x3 : Int32} {h : am_H} {Q : am_Q} {res : Int32 × am_H} (e : f_Club_clubs h x1 x2 x3 = some res) (q : Q (some (.int res.1)) res.2) : am_W (X_Club_clubs (d + 3)) 0 [some (.ref 0), some (.int x1), some (.int x2), some (.int x3), none] [] h Q :=
  b_Club_clubs_0 (d := (d + 2)) (k := c_Club_isShelf (d := d + 2) rfl (t_Club_clubs_4 e q))
theorem c_Club_clubs {d : Nat} {x1 : Int32} {x2 : Int32} {x3 : Int32} {h : am_H} {Q : am_Q} {res : Int32 × am_H} (e : f_Club_clubs h x1 x2 x3 = some res) (q : Q (some (.int res.1)) res.2) : m_Club_clubs (d + 3) [.ref 0, .int x1, .int x2, .int x3] h Q :=
  e_Club_clubs (t_Club_clubs_0 e q)
theorem d_Hole_hasClub_0 : decode prog_5_method_12_code 0 = .ok (.iload_n 1, 1) := by decide +kernel
theorem d_Hole_hasClub_1 : decode prog_5_method_12_code 1 = .ok (.ifCond .lt 21, 3) := by decide +kernel
theorem d_Hole_hasClub_4 : decode prog_5_method_12_code 4 = .ok (.iload_n 1, 1) := by decide +kernel
theorem d_Hole_hasClub_5 : decode prog_5_method_12_code 5 = .ok (.aload_n 0, 1) := by decide +kernel
theorem d_Hole_hasClub_6 : decode prog_5_method_12_code 6 = .ok (.getfield 24, 3) := by decide +kernel
theorem d_Hole_hasClub_9 : decode prog_5_method_12_code 9 = .ok (.if_icmp .ge 13, 3) := by decide +kernel
theorem d_Hole_hasClub_12 : decode prog_5_method_12_code 12 = .ok (.iload_n 1, 1) := by decide +kernel
theorem d_Hole_hasClub_13 : decode prog_5_method_12_code 13 = .ok (.bipush 6, 2) := by decide +kernel
theorem d_Hole_hasClub_15 : decode prog_5_method_12_code 15 = .ok (.if_icmp .ge 7, 3) := by decide +kernel
theorem d_Hole_hasClub_18 : decode prog_5_method_12_code 18 = .ok (.iconst 1, 1) := by decide +kernel
theorem d_Hole_hasClub_19 : decode prog_5_method_12_code 19 = .ok (.goto 4, 3) := by decide +kernel
theorem d_Hole_hasClub_22 : decode prog_5_method_12_code 22 = .ok (.iconst 0, 1) := by decide +kernel
theorem d_Hole_hasClub_23 : decode prog_5_method_12_code 23 = .ok (.ireturn, 1) := by decide +kernel
theorem b_Hole_hasClub_0 {d : Nat} {x1 : Int32} {h : am_H} {Q : am_Q} (kt : x1 < 0 → am_W (X_Hole_hasClub d) 22 [some (.ref 1), some (.int x1)] [] h Q) (kf : ¬ x1 < 0 → am_W (X_Hole_hasClub d) 4 [some (.ref 1), some (.int x1)] [] h Q) : am_W (X_Hole_hasClub d) 0 [some (.ref 1), some (.int x1)] [] h Q :=
  am_iload_n d_Hole_hasClub_0 rfl (i := 1) rfl <|
    am_if_lt (tgt := 22) d_Hole_hasClub_1 (by decide) kt kf
theorem b_Hole_hasClub_4 {d : Nat} {x1 : Int32} {h : am_H} {Q : am_Q} (kt : (h.1 1 4) ≤ x1 → am_W (X_Hole_hasClub d) 22 [some (.ref 1), some (.int x1)] [] h Q) (kf : ¬ (h.1 1 4) ≤ x1 → am_W (X_Hole_hasClub d) 12 [some (.ref 1), some (.int x1)] [] h Q) : am_W (X_Hole_hasClub d) 4 [some (.ref 1), some (.int x1)] [] h Q :=
  am_iload_n d_Hole_hasClub_4 rfl (i := 1) rfl <|
    am_aload_n d_Hole_hasClub_5 rfl (i := 0) rfl <|
    am_getI (ci := 1) (i := 4) rfl rfl rfl (Nat.le_of_ble_eq_true rfl) w_126 d_Hole_hasClub_6 <|
    am_icmp_ge (tgt := 22) d_Hole_hasClub_9 (by decide) kt kf
theorem b_Hole_hasClub_12 {d : Nat} {x1 : Int32} {h : am_H} {Q : am_Q} (kt : 6 ≤ x1 → am_W (X_Hole_hasClub d) 22 [some (.ref 1), some (.int x1)] [] h Q) (kf : ¬ 6 ≤ x1 → am_W (X_Hole_hasClub d) 18 [some (.ref 1), some (.int x1)] [] h Q) : am_W (X_Hole_hasClub d) 12 [some (.ref 1), some (.int x1)] [] h Q :=
  am_iload_n d_Hole_hasClub_12 rfl (i := 1) rfl <|
    am_bipush (v := 6) d_Hole_hasClub_13 (by decide) <|
    am_icmp_ge (tgt := 22) d_Hole_hasClub_15 (by decide) kt kf
theorem b_Hole_hasClub_18 {d : Nat} {x1 : Int32} {h : am_H} {Q : am_Q} (q : Q (some (.int 1)) h) : am_W (X_Hole_hasClub d) 18 [some (.ref 1), some (.int x1)] [] h Q :=
  am_iconst (v := 1) d_Hole_hasClub_18 (by decide) <|
    am_goto (tgt := 23) d_Hole_hasClub_19 (by decide) <|
    am_zret (ty := .boolean) rfl (by decide) d_Hole_hasClub_23 q
theorem b_Hole_hasClub_22 {d : Nat} {x1 : Int32} {h : am_H} {Q : am_Q} (q : Q (some (.int 0)) h) : am_W (X_Hole_hasClub d) 22 [some (.ref 1), some (.int x1)] [] h Q :=
  am_iconst (v := 0) d_Hole_hasClub_22 (by decide) <|
    am_zret (ty := .boolean) rfl (by decide) d_Hole_hasClub_23 q
theorem t_Hole_hasClub_22 {d : Nat} {x1 : Int32} {h : am_H} {Q : am_Q} {res : Bool} (e : f_Hole_hasClub_22 h = res) (q : Q (some (.int (am_b res))) h) : am_W (X_Hole_hasClub d) 22 [some (.ref 1), some (.int x1)] [] h Q :=
  b_Hole_hasClub_22 (d := d) (q := (am_rZt (v := false) e q))
theorem t_Hole_hasClub_18 {d : Nat} {x1 : Int32} {h : am_H} {Q : am_Q} {res : Bool} (e : f_Hole_hasClub_18 h = res) (q : Q (some (.int (am_b res))) h) : am_W (X_Hole_hasClub d) 18 [some (.ref 1), some (.int x1)] [] h Q :=
  b_Hole_hasClub_18 (d := d) (q := (am_rZt (v := true) e q))
theorem t_Hole_hasClub_12 {d : Nat} {x1 : Int32} {h : am_H} {Q : am_Q} {res : Bool} (e : f_Hole_hasClub_12 h x1 = res) (q : Q (some (.int (am_b res))) h) : am_W (X_Hole_hasClub d) 12 [some (.ref 1), some (.int x1)] [] h Q :=
  b_Hole_hasClub_12 (d := d) (kt := fun c => (t_Hole_hasClub_22 (am_ift e c) q)) (kf := fun c => (t_Hole_hasClub_18 (am_ife e c) q))
theorem t_Hole_hasClub_4 {d : Nat} {x1 : Int32} {h : am_H} {Q : am_Q} {res : Bool} (e : f_Hole_hasClub_4 h x1 = res) (q : Q (some (.int (am_b res))) h) : am_W (X_Hole_hasClub d) 4 [some (.ref 1), some (.int x1)] [] h Q :=
  b_Hole_hasClub_4 (d := d) (kt := fun c => (t_Hole_hasClub_22 (am_ift e c) q)) (kf := fun c => (t_Hole_hasClub_12 (am_ife e c) q))
theorem t_Hole_hasClub_0 {d : Nat} {x1 : Int32} {h : am_H} {Q : am_Q} {res : Bool} (e : f_Hole_hasClub h x1 = res) (q : Q (some (.int (am_b res))) h) : am_W (X_Hole_hasClub d) 0 [some (.ref 1), some (.int x1)] [] h Q :=
  b_Hole_hasClub_0 (d := d) (kt := fun c => (t_Hole_hasClub_22 (am_ift e c) q)) (kf := fun c => (t_Hole_hasClub_4 (am_ife e c) q))
theorem c_Hole_hasClub {d : Nat} {x1 : Int32} {h : am_H} {Q : am_Q} {res : Bool} (e : f_Hole_hasClub h x1 = res) (q : Q (some (.int (am_b res))) h) : m_Hole_hasClub d [.ref 1, .int x1] h Q :=
  e_Hole_hasClub (t_Hole_hasClub_0 e q)
theorem d_Hole_isCell_0 : decode prog_5_method_2_code 0 = .ok (.iload_n 0, 1) := by decide +kernel
theorem d_Hole_isCell_1 : decode prog_5_method_2_code 1 = .ok (.ifCond .lt 13, 3) := by decide +kernel
theorem d_Hole_isCell_4 : decode prog_5_method_2_code 4 = .ok (.iload_n 0, 1) := by decide +kernel
theorem d_Hole_isCell_5 : decode prog_5_method_2_code 5 = .ok (.bipush 31, 2) := by decide +kernel
theorem d_Hole_isCell_7 : decode prog_5_method_2_code 7 = .ok (.if_icmp .ge 7, 3) := by decide +kernel
theorem d_Hole_isCell_10 : decode prog_5_method_2_code 10 = .ok (.iconst 1, 1) := by decide +kernel
theorem d_Hole_isCell_11 : decode prog_5_method_2_code 11 = .ok (.goto 4, 3) := by decide +kernel
theorem d_Hole_isCell_14 : decode prog_5_method_2_code 14 = .ok (.iconst 0, 1) := by decide +kernel
theorem d_Hole_isCell_15 : decode prog_5_method_2_code 15 = .ok (.ireturn, 1) := by decide +kernel
theorem b_Hole_isCell_0 {d : Nat} {x0 : Int32} {h : am_H} {Q : am_Q} (kt : x0 < 0 → am_W (X_Hole_isCell d) 14 [some (.int x0)] [] h Q) (kf : ¬ x0 < 0 → am_W (X_Hole_isCell d) 4 [some (.int x0)] [] h Q) : am_W (X_Hole_isCell d) 0 [some (.int x0)] [] h Q :=
  am_iload_n d_Hole_isCell_0 rfl (i := 0) rfl <|
    am_if_lt (tgt := 14) d_Hole_isCell_1 (by decide) kt kf
theorem b_Hole_isCell_4 {d : Nat} {x0 : Int32} {h : am_H} {Q : am_Q} (kt : 31 ≤ x0 → am_W (X_Hole_isCell d) 14 [some (.int x0)] [] h Q) (kf : ¬ 31 ≤ x0 → am_W (X_Hole_isCell d) 10 [some (.int x0)] [] h Q) : am_W (X_Hole_isCell d) 4 [some (.int x0)] [] h Q :=
  am_iload_n d_Hole_isCell_4 rfl (i := 0) rfl <|
    am_bipush (v := 31) d_Hole_isCell_5 (by decide) <|
    am_icmp_ge (tgt := 14) d_Hole_isCell_7 (by decide) kt kf
theorem b_Hole_isCell_10 {d : Nat} {x0 : Int32} {h : am_H} {Q : am_Q} (q : Q (some (.int 1)) h) : am_W (X_Hole_isCell d) 10 [some (.int x0)] [] h Q :=
  am_iconst (v := 1) d_Hole_isCell_10 (by decide) <|
    am_goto (tgt := 15) d_Hole_isCell_11 (by decide) <|
    am_zret (ty := .boolean) rfl (by decide) d_Hole_isCell_15 q
theorem b_Hole_isCell_14 {d : Nat} {x0 : Int32} {h : am_H} {Q : am_Q} (q : Q (some (.int 0)) h) : am_W (X_Hole_isCell d) 14 [some (.int x0)] [] h Q :=
  am_iconst (v := 0) d_Hole_isCell_14 (by decide) <|
    am_zret (ty := .boolean) rfl (by decide) d_Hole_isCell_15 q
theorem t_Hole_isCell_14 {d : Nat} {x0 : Int32} {h : am_H} {Q : am_Q} {res : Bool} (e : f_Hole_isCell_14 = res) (q : Q (some (.int (am_b res))) h) : am_W (X_Hole_isCell d) 14 [some (.int x0)] [] h Q :=
  b_Hole_isCell_14 (d := d) (q := (am_rZt (v := false) e q))
theorem t_Hole_isCell_10 {d : Nat} {x0 : Int32} {h : am_H} {Q : am_Q} {res : Bool} (e : f_Hole_isCell_10 = res) (q : Q (some (.int (am_b res))) h) : am_W (X_Hole_isCell d) 10 [some (.int x0)] [] h Q :=
  b_Hole_isCell_10 (d := d) (q := (am_rZt (v := true) e q))
theorem t_Hole_isCell_4 {d : Nat} {x0 : Int32} {h : am_H} {Q : am_Q} {res : Bool} (e : f_Hole_isCell_4 x0 = res) (q : Q (some (.int (am_b res))) h) : am_W (X_Hole_isCell d) 4 [some (.int x0)] [] h Q :=
  b_Hole_isCell_4 (d := d) (kt := fun c => (t_Hole_isCell_14 (am_ift e c) q)) (kf := fun c => (t_Hole_isCell_10 (am_ife e c) q))
theorem t_Hole_isCell_0 {d : Nat} {x0 : Int32} {h : am_H} {Q : am_Q} {res : Bool} (e : f_Hole_isCell x0 = res) (q : Q (some (.int (am_b res))) h) : am_W (X_Hole_isCell d) 0 [some (.int x0)] [] h Q :=
  b_Hole_isCell_0 (d := d) (kt := fun c => (t_Hole_isCell_14 (am_ift e c) q)) (kf := fun c => (t_Hole_isCell_4 (am_ife e c) q))
theorem c_Hole_isCell {d : Nat} {x0 : Int32} {h : am_H} {Q : am_Q} {res : Bool} (e : f_Hole_isCell x0 = res) (q : Q (some (.int (am_b res))) h) : m_Hole_isCell d [.int x0] h Q :=
  e_Hole_isCell (t_Hole_isCell_0 e q)
theorem d_Hole_hasNumber_0 : decode prog_5_method_5_code 0 = .ok (.iload_n 2, 1) := by decide +kernel
theorem d_Hole_hasNumber_1 : decode prog_5_method_5_code 1 = .ok (.ifCond .ne 8, 3) := by decide +kernel
theorem d_Hole_hasNumber_4 : decode prog_5_method_5_code 4 = .ok (.iload_n 1, 1) := by decide +kernel
theorem d_Hole_hasNumber_5 : decode prog_5_method_5_code 5 = .ok (.invokestatic 59, 3) := by decide +kernel
theorem d_Hole_hasNumber_8 : decode prog_5_method_5_code 8 = .ok (.ireturn, 1) := by decide +kernel
theorem d_Hole_hasNumber_9 : decode prog_5_method_5_code 9 = .ok (.iload_n 2, 1) := by decide +kernel
theorem d_Hole_hasNumber_10 : decode prog_5_method_5_code 10 = .ok (.iconst 1, 1) := by decide +kernel
theorem d_Hole_hasNumber_11 : decode prog_5_method_5_code 11 = .ok (.if_icmp .lt 14, 3) := by decide +kernel
theorem d_Hole_hasNumber_14 : decode prog_5_method_5_code 14 = .ok (.iload_n 2, 1) := by decide +kernel
theorem d_Hole_hasNumber_15 : decode prog_5_method_5_code 15 = .ok (.iconst 3, 1) := by decide +kernel
theorem d_Hole_hasNumber_16 : decode prog_5_method_5_code 16 = .ok (.if_icmp .gt 9, 3) := by decide +kernel
theorem d_Hole_hasNumber_19 : decode prog_5_method_5_code 19 = .ok (.aload_n 0, 1) := by decide +kernel
theorem d_Hole_hasNumber_20 : decode prog_5_method_5_code 20 = .ok (.iload_n 1, 1) := by decide +kernel
theorem d_Hole_hasNumber_21 : decode prog_5_method_5_code 21 = .ok (.invokevirtual 63, 3) := by decide +kernel
theorem d_Hole_hasNumber_24 : decode prog_5_method_5_code 24 = .ok (.ireturn, 1) := by decide +kernel
theorem d_Hole_hasNumber_25 : decode prog_5_method_5_code 25 = .ok (.iload_n 2, 1) := by decide +kernel
theorem d_Hole_hasNumber_26 : decode prog_5_method_5_code 26 = .ok (.iconst 4, 1) := by decide +kernel
theorem d_Hole_hasNumber_27 : decode prog_5_method_5_code 27 = .ok (.if_icmp .lt 17, 3) := by decide +kernel
theorem d_Hole_hasNumber_30 : decode prog_5_method_5_code 30 = .ok (.iload_n 2, 1) := by decide +kernel
theorem d_Hole_hasNumber_31 : decode prog_5_method_5_code 31 = .ok (.bipush 8, 2) := by decide +kernel
theorem d_Hole_hasNumber_33 : decode prog_5_method_5_code 33 = .ok (.if_icmp .gt 11, 3) := by decide +kernel
theorem d_Hole_hasNumber_36 : decode prog_5_method_5_code 36 = .ok (.iload_n 1, 1) := by decide +kernel
theorem d_Hole_hasNumber_37 : decode prog_5_method_5_code 37 = .ok (.ifCond .ne 7, 3) := by decide +kernel
theorem d_Hole_hasNumber_40 : decode prog_5_method_5_code 40 = .ok (.iconst 1, 1) := by decide +kernel
theorem d_Hole_hasNumber_41 : decode prog_5_method_5_code 41 = .ok (.goto 4, 3) := by decide +kernel
theorem d_Hole_hasNumber_44 : decode prog_5_method_5_code 44 = .ok (.iconst 0, 1) := by decide +kernel
theorem d_Hole_hasNumber_45 : decode prog_5_method_5_code 45 = .ok (.ireturn, 1) := by decide +kernel
theorem b_Hole_hasNumber_0 {d : Nat} {x1 : Int32} {x2 : Int32} {h : am_H} {Q : am_Q} (kt : ¬ x2 = 0 → am_W (X_Hole_hasNumber d) 9 [some (.ref 1), some (.int x1), some (.int x2)] [] h Q) (kf : x2 = 0 → am_W (X_Hole_hasNumber d) 4 [some (.ref 1), some (.int x1), some (.int x2)] [] h Q) : am_W (X_Hole_hasNumber d) 0 [some (.ref 1), some (.int x1), some (.int x2)] [] h Q :=
  am_iload_n d_Hole_hasNumber_0 rfl (i := 2) rfl <|
    am_if_ne (tgt := 9) d_Hole_hasNumber_1 (by decide) kt kf
theorem b_Hole_hasNumber_4 {d : Nat} {x1 : Int32} {x2 : Int32} {h : am_H} {Q : am_Q} (k : m_Hole_isCell d [.int x1] h (fun r hh => am_W (X_Hole_hasNumber (d + 1)) 8 [some (.ref 1), some (.int x1), some (.int x2)] (r.toList ++ []) hh Q)) : am_W (X_Hole_hasNumber (d + 1)) 4 [some (.ref 1), some (.int x1), some (.int x2)] [] h Q :=
  am_iload_n d_Hole_hasNumber_4 rfl (i := 1) rfl <|
    am_callS (vs := [.int x1]) (st := []) rfl d_Hole_hasNumber_5 w_468 w_469 w_84 w_470 p_Hole_isCell (Nat.le_of_ble_eq_true rfl) (Nat.le_of_ble_eq_true rfl) rfl k
theorem b_Hole_hasNumber_8 {d : Nat} {x1 : Int32} {x2 : Int32} {y0 : Bool} {h : am_H} {Q : am_Q} (q : Q (some (.int (am_b y0))) h) : am_W (X_Hole_hasNumber d) 8 [some (.ref 1), some (.int x1), some (.int x2)] [.int (am_b y0)] h Q :=
  am_zret (ty := .boolean) rfl am_nb d_Hole_hasNumber_8 q
theorem b_Hole_hasNumber_9 {d : Nat} {x1 : Int32} {x2 : Int32} {h : am_H} {Q : am_Q} (kt : x2 < 1 → am_W (X_Hole_hasNumber d) 25 [some (.ref 1), some (.int x1), some (.int x2)] [] h Q) (kf : ¬ x2 < 1 → am_W (X_Hole_hasNumber d) 14 [some (.ref 1), some (.int x1), some (.int x2)] [] h Q) : am_W (X_Hole_hasNumber d) 9 [some (.ref 1), some (.int x1), some (.int x2)] [] h Q :=
  am_iload_n d_Hole_hasNumber_9 rfl (i := 2) rfl <|
    am_iconst (v := 1) d_Hole_hasNumber_10 (by decide) <|
    am_icmp_lt (tgt := 25) d_Hole_hasNumber_11 (by decide) kt kf
theorem b_Hole_hasNumber_14 {d : Nat} {x1 : Int32} {x2 : Int32} {h : am_H} {Q : am_Q} (kt : 3 < x2 → am_W (X_Hole_hasNumber d) 25 [some (.ref 1), some (.int x1), some (.int x2)] [] h Q) (kf : ¬ 3 < x2 → am_W (X_Hole_hasNumber d) 19 [some (.ref 1), some (.int x1), some (.int x2)] [] h Q) : am_W (X_Hole_hasNumber d) 14 [some (.ref 1), some (.int x1), some (.int x2)] [] h Q :=
  am_iload_n d_Hole_hasNumber_14 rfl (i := 2) rfl <|
    am_iconst (v := 3) d_Hole_hasNumber_15 (by decide) <|
    am_icmp_gt (tgt := 25) d_Hole_hasNumber_16 (by decide) kt kf
theorem b_Hole_hasNumber_19 {d : Nat} {x1 : Int32} {x2 : Int32} {h : am_H} {Q : am_Q} (k : m_Hole_hasClub d [.ref 1, .int x1] h (fun r hh => am_W (X_Hole_hasNumber (d + 1)) 24 [some (.ref 1), some (.int x1), some (.int x2)] (r.toList ++ []) hh Q)) : am_W (X_Hole_hasNumber (d + 1)) 19 [some (.ref 1), some (.int x1), some (.int x2)] [] h Q :=
  am_aload_n d_Hole_hasNumber_19 rfl (i := 0) rfl <|
    am_iload_n d_Hole_hasNumber_20 rfl (i := 1) rfl <|
    am_callV (vs := [.int x1]) (st := []) (k := 1) (ci := 1) rfl d_Hole_hasNumber_21 rfl rfl w_471 w_472 w_473 w_84 w_474 p_Hole_hasClub (Nat.le_of_ble_eq_true rfl) (Nat.le_of_ble_eq_true rfl) rfl k
theorem b_Hole_hasNumber_24 {d : Nat} {x1 : Int32} {x2 : Int32} {y0 : Bool} {h : am_H} {Q : am_Q} (q : Q (some (.int (am_b y0))) h) : am_W (X_Hole_hasNumber d) 24 [some (.ref 1), some (.int x1), some (.int x2)] [.int (am_b y0)] h Q :=
  am_zret (ty := .boolean) rfl am_nb d_Hole_hasNumber_24 q
theorem b_Hole_hasNumber_25 {d : Nat} {x1 : Int32} {x2 : Int32} {h : am_H} {Q : am_Q} (kt : x2 < 4 → am_W (X_Hole_hasNumber d) 44 [some (.ref 1), some (.int x1), some (.int x2)] [] h Q) (kf : ¬ x2 < 4 → am_W (X_Hole_hasNumber d) 30 [some (.ref 1), some (.int x1), some (.int x2)] [] h Q) : am_W (X_Hole_hasNumber d) 25 [some (.ref 1), some (.int x1), some (.int x2)] [] h Q :=
  am_iload_n d_Hole_hasNumber_25 rfl (i := 2) rfl <|
    am_iconst (v := 4) d_Hole_hasNumber_26 (by decide) <|
    am_icmp_lt (tgt := 44) d_Hole_hasNumber_27 (by decide) kt kf
theorem b_Hole_hasNumber_30 {d : Nat} {x1 : Int32} {x2 : Int32} {h : am_H} {Q : am_Q} (kt : 8 < x2 → am_W (X_Hole_hasNumber d) 44 [some (.ref 1), some (.int x1), some (.int x2)] [] h Q) (kf : ¬ 8 < x2 → am_W (X_Hole_hasNumber d) 36 [some (.ref 1), some (.int x1), some (.int x2)] [] h Q) : am_W (X_Hole_hasNumber d) 30 [some (.ref 1), some (.int x1), some (.int x2)] [] h Q :=
  am_iload_n d_Hole_hasNumber_30 rfl (i := 2) rfl <|
    am_bipush (v := 8) d_Hole_hasNumber_31 (by decide) <|
    am_icmp_gt (tgt := 44) d_Hole_hasNumber_33 (by decide) kt kf
theorem b_Hole_hasNumber_36 {d : Nat} {x1 : Int32} {x2 : Int32} {h : am_H} {Q : am_Q} (kt : ¬ x1 = 0 → am_W (X_Hole_hasNumber d) 44 [some (.ref 1), some (.int x1), some (.int x2)] [] h Q) (kf : x1 = 0 → am_W (X_Hole_hasNumber d) 40 [some (.ref 1), some (.int x1), some (.int x2)] [] h Q) : am_W (X_Hole_hasNumber d) 36 [some (.ref 1), some (.int x1), some (.int x2)] [] h Q :=
  am_iload_n d_Hole_hasNumber_36 rfl (i := 1) rfl <|
    am_if_ne (tgt := 44) d_Hole_hasNumber_37 (by decide) kt kf
theorem b_Hole_hasNumber_40 {d : Nat} {x1 : Int32} {x2 : Int32} {h : am_H} {Q : am_Q} (q : Q (some (.int 1)) h) : am_W (X_Hole_hasNumber d) 40 [some (.ref 1), some (.int x1), some (.int x2)] [] h Q :=
  am_iconst (v := 1) d_Hole_hasNumber_40 (by decide) <|
    am_goto (tgt := 45) d_Hole_hasNumber_41 (by decide) <|
    am_zret (ty := .boolean) rfl (by decide) d_Hole_hasNumber_45 q
theorem b_Hole_hasNumber_44 {d : Nat} {x1 : Int32} {x2 : Int32} {h : am_H} {Q : am_Q} (q : Q (some (.int 0)) h) : am_W (X_Hole_hasNumber d) 44 [some (.ref 1), some (.int x1), some (.int x2)] [] h Q :=
  am_iconst (v := 0) d_Hole_hasNumber_44 (by decide) <|
    am_zret (ty := .boolean) rfl (by decide) d_Hole_hasNumber_45 q
theorem t_Hole_hasNumber_44 {d : Nat} {x1 : Int32} {x2 : Int32} {h : am_H} {Q : am_Q} {res : Bool} (e : f_Hole_hasNumber_44 h = res) (q : Q (some (.int (am_b res))) h) : am_W (X_Hole_hasNumber (d + 1)) 44 [some (.ref 1), some (.int x1), some (.int x2)] [] h Q :=
  b_Hole_hasNumber_44 (d := (d + 1)) (q := (am_rZt (v := false) e q))
theorem t_Hole_hasNumber_40 {d : Nat} {x1 : Int32} {x2 : Int32} {h : am_H} {Q : am_Q} {res : Bool} (e : f_Hole_hasNumber_40 h = res) (q : Q (some (.int (am_b res))) h) : am_W (X_Hole_hasNumber (d + 1)) 40 [some (.ref 1), some (.int x1), some (.int x2)] [] h Q :=
  b_Hole_hasNumber_40 (d := (d + 1)) (q := (am_rZt (v := true) e q))
theorem t_Hole_hasNumber_36 {d : Nat} {x1 : Int32} {x2 : Int32} {h : am_H} {Q : am_Q} {res : Bool} (e : f_Hole_hasNumber_36 h x1 = res) (q : Q (some (.int (am_b res))) h) : am_W (X_Hole_hasNumber (d + 1)) 36 [some (.ref 1), some (.int x1), some (.int x2)] [] h Q :=
  b_Hole_hasNumber_36 (d := (d + 1)) (kt := fun c => (t_Hole_hasNumber_44 (am_ife e c) q)) (kf := fun c => (t_Hole_hasNumber_40 (am_ift e c) q))
theorem t_Hole_hasNumber_30 {d : Nat} {x1 : Int32} {x2 : Int32} {h : am_H} {Q : am_Q} {res : Bool} (e : f_Hole_hasNumber_30 h x1 x2 = res) (q : Q (some (.int (am_b res))) h) : am_W (X_Hole_hasNumber (d + 1)) 30 [some (.ref 1), some (.int x1), some (.int x2)] [] h Q :=
  b_Hole_hasNumber_30 (d := (d + 1)) (kt := fun c => (t_Hole_hasNumber_44 (am_ift e c) q)) (kf := fun c => (t_Hole_hasNumber_36 (am_ife e c) q))
theorem t_Hole_hasNumber_25 {d : Nat} {x1 : Int32} {x2 : Int32} {h : am_H} {Q : am_Q} {res : Bool} (e : f_Hole_hasNumber_25 h x1 x2 = res) (q : Q (some (.int (am_b res))) h) : am_W (X_Hole_hasNumber (d + 1)) 25 [some (.ref 1), some (.int x1), some (.int x2)] [] h Q :=
  b_Hole_hasNumber_25 (d := (d + 1)) (kt := fun c => (t_Hole_hasNumber_44 (am_ift e c) q)) (kf := fun c => (t_Hole_hasNumber_30 (am_ife e c) q))
theorem t_Hole_hasNumber_24 {d : Nat} {x1 : Int32} {x2 : Int32} {y0 : Bool} {h : am_H} {Q : am_Q} {res : Bool} (e : f_Hole_hasNumber_24 h y0 = res) (q : Q (some (.int (am_b res))) h) : am_W (X_Hole_hasNumber (d + 1)) 24 [some (.ref 1), some (.int x1), some (.int x2)] [.int (am_b y0)] h Q :=
  b_Hole_hasNumber_24 (d := (d + 1)) (q := (am_rZt (v := y0) e q))
theorem t_Hole_hasNumber_19 {d : Nat} {x1 : Int32} {x2 : Int32} {h : am_H} {Q : am_Q} {res : Bool} (e : f_Hole_hasNumber_19 h x1 = res) (q : Q (some (.int (am_b res))) h) : am_W (X_Hole_hasNumber (d + 1)) 19 [some (.ref 1), some (.int x1), some (.int x2)] [] h Q :=
  b_Hole_hasNumber_19 (d := d) (k := c_Hole_hasClub (d := d) rfl (t_Hole_hasNumber_24 e q))
theorem t_Hole_hasNumber_14 {d : Nat} {x1 : Int32} {x2 : Int32} {h : am_H} {Q : am_Q} {res : Bool} (e : f_Hole_hasNumber_14 h x1 x2 = res) (q : Q (some (.int (am_b res))) h) : am_W (X_Hole_hasNumber (d + 1)) 14 [some (.ref 1), some (.int x1), some (.int x2)] [] h Q :=
  b_Hole_hasNumber_14 (d := (d + 1)) (kt := fun c => (t_Hole_hasNumber_25 (am_ift e c) q)) (kf := fun c => (t_Hole_hasNumber_19 (am_ife e c) q))
theorem t_Hole_hasNumber_9 {d : Nat} {x1 : Int32} {x2 : Int32} {h : am_H} {Q : am_Q} {res : Bool} (e : f_Hole_hasNumber_9 h x1 x2 = res) (q : Q (some (.int (am_b res))) h) : am_W (X_Hole_hasNumber (d + 1)) 9 [some (.ref 1), some (.int x1), some (.int x2)] [] h Q :=
  b_Hole_hasNumber_9 (d := (d + 1)) (kt := fun c => (t_Hole_hasNumber_25 (am_ift e c) q)) (kf := fun c => (t_Hole_hasNumber_14 (am_ife e c) q))
theorem t_Hole_hasNumber_8 {d : Nat} {x1 : Int32} {x2 : Int32} {y0 : Bool} {h : am_H} {Q : am_Q} {res : Bool} (e : f_Hole_hasNumber_8 h y0 = res) (q : Q (some (.int (am_b res))) h) : am_W (X_Hole_hasNumber (d + 1)) 8 [some (.ref 1), some (.int x1), some (.int x2)] [.int (am_b y0)] h Q :=
  b_Hole_hasNumber_8 (d := (d + 1)) (q := (am_rZt (v := y0) e q))
theorem t_Hole_hasNumber_4 {d : Nat} {x1 : Int32} {x2 : Int32} {h : am_H} {Q : am_Q} {res : Bool} (e : f_Hole_hasNumber_4 h x1 = res) (q : Q (some (.int (am_b res))) h) : am_W (X_Hole_hasNumber (d + 1)) 4 [some (.ref 1), some (.int x1), some (.int x2)] [] h Q :=
  b_Hole_hasNumber_4 (d := d) (k := c_Hole_isCell (d := d) rfl (t_Hole_hasNumber_8 e q))
theorem t_Hole_hasNumber_0 {d : Nat} {x1 : Int32} {x2 : Int32} {h : am_H} {Q : am_Q} {res : Bool} (e : f_Hole_hasNumber h x1 x2 = res) (q : Q (some (.int (am_b res))) h) : am_W (X_Hole_hasNumber (d + 1)) 0 [some (.ref 1), some (.int x1), some (.int x2)] [] h Q :=
  b_Hole_hasNumber_0 (d := (d + 1)) (kt := fun c => (t_Hole_hasNumber_9 (am_ife e c) q)) (kf := fun c => (t_Hole_hasNumber_4 (am_ift e c) q))
theorem c_Hole_hasNumber {d : Nat} {x1 : Int32} {x2 : Int32} {h : am_H} {Q : am_Q} {res : Bool} (e : f_Hole_hasNumber h x1 x2 = res) (q : Q (some (.int (am_b res))) h) : m_Hole_hasNumber (d + 1) [.ref 1, .int x1, .int x2] h Q :=
  e_Hole_hasNumber (t_Hole_hasNumber_0 e q)
theorem d_Hole_become_0 : decode prog_5_method_8_code 0 = .ok (.aload_n 0, 1) := by decide +kernel
theorem d_Hole_become_1 : decode prog_5_method_8_code 1 = .ok (.iload_n 1, 1) := by decide +kernel
theorem d_Hole_become_2 : decode prog_5_method_8_code 2 = .ok (.iload_n 2, 1) := by decide +kernel
theorem d_Hole_become_3 : decode prog_5_method_8_code 3 = .ok (.invokevirtual 67, 3) := by decide +kernel
theorem d_Hole_become_6 : decode prog_5_method_8_code 6 = .ok (.ifCond .ne 4, 3) := by decide +kernel
theorem d_Hole_become_9 : decode prog_5_method_8_code 9 = .ok (.return_, 1) := by decide +kernel
theorem d_Hole_become_10 : decode prog_5_method_8_code 10 = .ok (.iload_n 2, 1) := by decide +kernel
theorem d_Hole_become_11 : decode prog_5_method_8_code 11 = .ok (.tableswitch 117 0 7 #[45, 55, 65, 75, 85, 93, 101, 109], 45) := by decide +kernel
theorem d_Hole_become_56 : decode prog_5_method_8_code 56 = .ok (.aload_n 0, 1) := by decide +kernel
theorem d_Hole_become_57 : decode prog_5_method_8_code 57 = .ok (.getfield 11, 3) := by decide +kernel
theorem d_Hole_become_60 : decode prog_5_method_8_code 60 = .ok (.iload_n 1, 1) := by decide +kernel
theorem d_Hole_become_61 : decode prog_5_method_8_code 61 = .ok (.iload_n 3, 1) := by decide +kernel
theorem d_Hole_become_62 : decode prog_5_method_8_code 62 = .ok (.iastore, 1) := by decide +kernel
theorem d_Hole_become_63 : decode prog_5_method_8_code 63 = .ok (.goto 70, 3) := by decide +kernel
theorem d_Hole_become_66 : decode prog_5_method_8_code 66 = .ok (.aload_n 0, 1) := by decide +kernel
theorem d_Hole_become_67 : decode prog_5_method_8_code 67 = .ok (.getfield 15, 3) := by decide +kernel
theorem d_Hole_become_70 : decode prog_5_method_8_code 70 = .ok (.iload_n 1, 1) := by decide +kernel
theorem d_Hole_become_71 : decode prog_5_method_8_code 71 = .ok (.iload_n 3, 1) := by decide +kernel
theorem d_Hole_become_72 : decode prog_5_method_8_code 72 = .ok (.iastore, 1) := by decide +kernel
theorem d_Hole_become_73 : decode prog_5_method_8_code 73 = .ok (.goto 60, 3) := by decide +kernel
theorem d_Hole_become_76 : decode prog_5_method_8_code 76 = .ok (.aload_n 0, 1) := by decide +kernel
theorem d_Hole_become_77 : decode prog_5_method_8_code 77 = .ok (.getfield 18, 3) := by decide +kernel
theorem d_Hole_become_80 : decode prog_5_method_8_code 80 = .ok (.iload_n 1, 1) := by decide +kernel
theorem d_Hole_become_81 : decode prog_5_method_8_code 81 = .ok (.iload_n 3, 1) := by decide +kernel
theorem d_Hole_become_82 : decode prog_5_method_8_code 82 = .ok (.iastore, 1) := by decide +kernel
theorem d_Hole_become_83 : decode prog_5_method_8_code 83 = .ok (.goto 50, 3) := by decide +kernel
theorem d_Hole_become_86 : decode prog_5_method_8_code 86 = .ok (.aload_n 0, 1) := by decide +kernel
theorem d_Hole_become_87 : decode prog_5_method_8_code 87 = .ok (.getfield 21, 3) := by decide +kernel
theorem d_Hole_become_90 : decode prog_5_method_8_code 90 = .ok (.iload_n 1, 1) := by decide +kernel
theorem d_Hole_become_91 : decode prog_5_method_8_code 91 = .ok (.iload_n 3, 1) := by decide +kernel
theorem d_Hole_become_92 : decode prog_5_method_8_code 92 = .ok (.iastore, 1) := by decide +kernel
theorem d_Hole_become_93 : decode prog_5_method_8_code 93 = .ok (.goto 40, 3) := by decide +kernel
theorem d_Hole_become_96 : decode prog_5_method_8_code 96 = .ok (.aload_n 0, 1) := by decide +kernel
theorem d_Hole_become_97 : decode prog_5_method_8_code 97 = .ok (.iload_n 3, 1) := by decide +kernel
theorem d_Hole_become_98 : decode prog_5_method_8_code 98 = .ok (.putfield 28, 3) := by decide +kernel
theorem d_Hole_become_101 : decode prog_5_method_8_code 101 = .ok (.goto 32, 3) := by decide +kernel
theorem d_Hole_become_104 : decode prog_5_method_8_code 104 = .ok (.aload_n 0, 1) := by decide +kernel
theorem d_Hole_become_105 : decode prog_5_method_8_code 105 = .ok (.iload_n 3, 1) := by decide +kernel
theorem d_Hole_become_106 : decode prog_5_method_8_code 106 = .ok (.putfield 31, 3) := by decide +kernel
theorem d_Hole_become_109 : decode prog_5_method_8_code 109 = .ok (.goto 24, 3) := by decide +kernel
theorem d_Hole_become_112 : decode prog_5_method_8_code 112 = .ok (.aload_n 0, 1) := by decide +kernel
theorem d_Hole_become_113 : decode prog_5_method_8_code 113 = .ok (.iload_n 3, 1) := by decide +kernel
theorem d_Hole_become_114 : decode prog_5_method_8_code 114 = .ok (.putfield 34, 3) := by decide +kernel
theorem d_Hole_become_117 : decode prog_5_method_8_code 117 = .ok (.goto 16, 3) := by decide +kernel
theorem d_Hole_become_120 : decode prog_5_method_8_code 120 = .ok (.aload_n 0, 1) := by decide +kernel
theorem d_Hole_become_121 : decode prog_5_method_8_code 121 = .ok (.iload_n 3, 1) := by decide +kernel
theorem d_Hole_become_122 : decode prog_5_method_8_code 122 = .ok (.putfield 37, 3) := by decide +kernel
theorem d_Hole_become_125 : decode prog_5_method_8_code 125 = .ok (.goto 8, 3) := by decide +kernel
theorem d_Hole_become_128 : decode prog_5_method_8_code 128 = .ok (.aload_n 0, 1) := by decide +kernel
theorem d_Hole_become_129 : decode prog_5_method_8_code 129 = .ok (.iload_n 3, 1) := by decide +kernel
theorem d_Hole_become_130 : decode prog_5_method_8_code 130 = .ok (.putfield 40, 3) := by decide +kernel
theorem d_Hole_become_133 : decode prog_5_method_8_code 133 = .ok (.return_, 1) := by decide +kernel
theorem b_Hole_become_0 {d : Nat} {x1 : Int32} {x2 : Int32} {x3 : Int32} {h : am_H} {Q : am_Q} (k : m_Hole_hasNumber d [.ref 1, .int x1, .int x2] h (fun r hh => am_W (X_Hole_become (d + 1)) 6 [some (.ref 1), some (.int x1), some (.int x2), some (.int x3)] (r.toList ++ []) hh Q)) : am_W (X_Hole_become (d + 1)) 0 [some (.ref 1), some (.int x1), some (.int x2), some (.int x3)] [] h Q :=
  am_aload_n d_Hole_become_0 rfl (i := 0) rfl <|
    am_iload_n d_Hole_become_1 rfl (i := 1) rfl <|
    am_iload_n d_Hole_become_2 rfl (i := 2) rfl <|
    am_callV (vs := [.int x1, .int x2]) (st := []) (k := 1) (ci := 1) rfl d_Hole_become_3 rfl rfl w_504 w_465 w_466 w_84 w_467 p_Hole_hasNumber (Nat.le_of_ble_eq_true rfl) (Nat.le_of_ble_eq_true rfl) rfl k
theorem b_Hole_become_6 {d : Nat} {x1 : Int32} {x2 : Int32} {x3 : Int32} {y0 : Bool} {h : am_H} {Q : am_Q} (kt : ¬ (am_b y0) = 0 → am_W (X_Hole_become d) 10 [some (.ref 1), some (.int x1), some (.int x2), some (.int x3)] [] h Q) (kf : (am_b y0) = 0 → am_W (X_Hole_become d) 9 [some (.ref 1), some (.int x1), some (.int x2), some (.int x3)] [] h Q) : am_W (X_Hole_become d) 6 [some (.ref 1), some (.int x1), some (.int x2), some (.int x3)] [.int (am_b y0)] h Q :=
  am_if_ne (tgt := 10) d_Hole_become_6 (by decide) kt kf
theorem b_Hole_become_9 {d : Nat} {x1 : Int32} {x2 : Int32} {x3 : Int32} {h : am_H} {Q : am_Q} (q : Q none h) : am_W (X_Hole_become d) 9 [some (.ref 1), some (.int x1), some (.int x2), some (.int x3)] [] h Q :=
  am_vret rfl d_Hole_become_9 q
theorem b_Hole_become_10 {d : Nat} {x1 : Int32} {x2 : Int32} {x3 : Int32} {h : am_H} {Q : am_Q} (k0 : x2 = 0 → am_W (X_Hole_become d) 56 [some (.ref 1), some (.int x1), some (.int x2), some (.int x3)] [] h Q) (k1 : x2 = 1 → am_W (X_Hole_become d) 66 [some (.ref 1), some (.int x1), some (.int x2), some (.int x3)] [] h Q) (k2 : x2 = 2 → am_W (X_Hole_become d) 76 [some (.ref 1), some (.int x1), some (.int x2), some (.int x3)] [] h Q) (k3 : x2 = 3 → am_W (X_Hole_become d) 86 [some (.ref 1), some (.int x1), some (.int x2), some (.int x3)] [] h Q) (k4 : x2 = 4 → am_W (X_Hole_become d) 96 [some (.ref 1), some (.int x1), some (.int x2), some (.int x3)] [] h Q) (k5 : x2 = 5 → am_W (X_Hole_become d) 104 [some (.ref 1), some (.int x1), some (.int x2), some (.int x3)] [] h Q) (k6 : x2 = 6 → am_W (X_Hole_become d) 112 [some (.ref 1), some (.int x1), some (.int x2), some (.int x3)] [] h Q) (k7 : x2 = 7 → am_W (X_Hole_become d) 120 [some (.ref 1), some (.int x1), some (.int x2), some (.int x3)] [] h Q) (kd : ¬ x2 = 0 → ¬ x2 = 1 → ¬ x2 = 2 → ¬ x2 = 3 → ¬ x2 = 4 → ¬ x2 = 5 → ¬ x2 = 6 → ¬ x2 = 7 → am_W (X_Hole_become d) 128 [some (.ref 1), some (.int x1), some (.int x2), some (.int x3)] [] h Q) : am_W (X_Hole_become d) 10 [some (.ref 1), some (.int x1), some (.int x2), some (.int x3)] [] h Q := by
  refine am_iload_n d_Hole_become_10 rfl (i := 2) rfl ?_
  by_cases e0 : (x2 : Int32).toInt < 0 ∨ 7 < (x2 : Int32).toInt
  · exact am_tableOut (tgt := 128) d_Hole_become_11 e0 (by decide) (kd (fun e => by rw [e] at e0; revert e0; decide) (fun e => by rw [e] at e0; revert e0; decide) (fun e => by rw [e] at e0; revert e0; decide) (fun e => by rw [e] at e0; revert e0; decide) (fun e => by rw [e] at e0; revert e0; decide) (fun e => by rw [e] at e0; revert e0; decide) (fun e => by rw [e] at e0; revert e0; decide) (fun e => by rw [e] at e0; revert e0; decide))
  by_cases e1 : x2 = 0
  · exact am_tableIn (tgt := 56) (off := 45) d_Hole_become_11 (fun e => e0 (Or.inl e)) (fun e => e0 (Or.inr e)) (by rw [e1]; decide +kernel) (by decide) (k0 e1)
  by_cases e2 : x2 = 1
  · exact am_tableIn (tgt := 66) (off := 55) d_Hole_become_11 (fun e => e0 (Or.inl e)) (fun e => e0 (Or.inr e)) (by rw [e2]; decide +kernel) (by decide) (k1 e2)
  by_cases e3 : x2 = 2
  · exact am_tableIn (tgt := 76) (off := 65) d_Hole_become_11 (fun e => e0 (Or.inl e)) (fun e => e0 (Or.inr e)) (by rw [e3]; decide +kernel) (by decide) (k2 e3)
  by_cases e4 : x2 = 3
  · exact am_tableIn (tgt := 86) (off := 75) d_Hole_become_11 (fun e => e0 (Or.inl e)) (fun e => e0 (Or.inr e)) (by rw [e4]; decide +kernel) (by decide) (k3 e4)
  by_cases e5 : x2 = 4
  · exact am_tableIn (tgt := 96) (off := 85) d_Hole_become_11 (fun e => e0 (Or.inl e)) (fun e => e0 (Or.inr e)) (by rw [e5]; decide +kernel) (by decide) (k4 e5)
  by_cases e6 : x2 = 5
  · exact am_tableIn (tgt := 104) (off := 93) d_Hole_become_11 (fun e => e0 (Or.inl e)) (fun e => e0 (Or.inr e)) (by rw [e6]; decide +kernel) (by decide) (k5 e6)
  by_cases e7 : x2 = 6
  · exact am_tableIn (tgt := 112) (off := 101) d_Hole_become_11 (fun e => e0 (Or.inl e)) (fun e => e0 (Or.inr e)) (by rw [e7]; decide +kernel) (by decide) (k6 e7)
  by_cases e8 : x2 = 7
  · exact am_tableIn (tgt := 120) (off := 109) d_Hole_become_11 (fun e => e0 (Or.inl e)) (fun e => e0 (Or.inr e)) (by rw [e8]; decide +kernel) (by decide) (k7 e8)
  exfalso
  simp only [← Int32.toInt_inj] at e1 e2 e3 e4 e5 e6 e7 e8
  simp only [Int32.reduceToInt] at e1 e2 e3 e4 e5 e6 e7 e8
  omega
theorem b_Hole_become_56 {d : Nat} {x1 : Int32} {x2 : Int32} {x3 : Int32} {h : am_H} {Q : am_Q} (q0 : vp_in x1 31) (q : Q none (am_pI h 2 x1.toNatClampNeg x3)) : am_W (X_Hole_become d) 56 [some (.ref 1), some (.int x1), some (.int x2), some (.int x3)] [] h Q :=
  am_aload_n d_Hole_become_56 rfl (i := 0) rfl <|
    am_getR (ci := 1) (i := 0) rfl rfl rfl (Nat.le_of_ble_eq_true rfl) w_122 d_Hole_become_57 <|
    am_iload_n d_Hole_become_60 rfl (i := 1) rfl <|
    am_iload_n d_Hole_become_61 rfl (i := 3) rfl <|
    am_iast rfl q0 d_Hole_become_62 <|
    am_goto (tgt := 133) d_Hole_become_63 (by decide) <|
    am_vret rfl d_Hole_become_133 q
theorem b_Hole_become_66 {d : Nat} {x1 : Int32} {x2 : Int32} {x3 : Int32} {h : am_H} {Q : am_Q} (q0 : vp_in x1 6) (q : Q none (am_pI h 3 x1.toNatClampNeg x3)) : am_W (X_Hole_become d) 66 [some (.ref 1), some (.int x1), some (.int x2), some (.int x3)] [] h Q :=
  am_aload_n d_Hole_become_66 rfl (i := 0) rfl <|
    am_getR (ci := 1) (i := 1) rfl rfl rfl (Nat.le_of_ble_eq_true rfl) w_123 d_Hole_become_67 <|
    am_iload_n d_Hole_become_70 rfl (i := 1) rfl <|
    am_iload_n d_Hole_become_71 rfl (i := 3) rfl <|
    am_iast rfl q0 d_Hole_become_72 <|
    am_goto (tgt := 133) d_Hole_become_73 (by decide) <|
    am_vret rfl d_Hole_become_133 q
theorem b_Hole_become_76 {d : Nat} {x1 : Int32} {x2 : Int32} {x3 : Int32} {h : am_H} {Q : am_Q} (q0 : vp_in x1 6) (q : Q none (am_pI h 4 x1.toNatClampNeg x3)) : am_W (X_Hole_become d) 76 [some (.ref 1), some (.int x1), some (.int x2), some (.int x3)] [] h Q :=
  am_aload_n d_Hole_become_76 rfl (i := 0) rfl <|
    am_getR (ci := 1) (i := 2) rfl rfl rfl (Nat.le_of_ble_eq_true rfl) w_124 d_Hole_become_77 <|
    am_iload_n d_Hole_become_80 rfl (i := 1) rfl <|
    am_iload_n d_Hole_become_81 rfl (i := 3) rfl <|
    am_iast rfl q0 d_Hole_become_82 <|
    am_goto (tgt := 133) d_Hole_become_83 (by decide) <|
    am_vret rfl d_Hole_become_133 q
theorem b_Hole_become_86 {d : Nat} {x1 : Int32} {x2 : Int32} {x3 : Int32} {h : am_H} {Q : am_Q} (q0 : vp_in x1 6) (q : Q none (am_pI h 5 x1.toNatClampNeg x3)) : am_W (X_Hole_become d) 86 [some (.ref 1), some (.int x1), some (.int x2), some (.int x3)] [] h Q :=
  am_aload_n d_Hole_become_86 rfl (i := 0) rfl <|
    am_getR (ci := 1) (i := 3) rfl rfl rfl (Nat.le_of_ble_eq_true rfl) w_125 d_Hole_become_87 <|
    am_iload_n d_Hole_become_90 rfl (i := 1) rfl <|
    am_iload_n d_Hole_become_91 rfl (i := 3) rfl <|
    am_iast rfl q0 d_Hole_become_92 <|
    am_goto (tgt := 133) d_Hole_become_93 (by decide) <|
    am_vret rfl d_Hole_become_133 q
theorem b_Hole_become_96 {d : Nat} {x1 : Int32} {x2 : Int32} {x3 : Int32} {h : am_H} {Q : am_Q} (q : Q none (am_pI h 1 5 x3)) : am_W (X_Hole_become d) 96 [some (.ref 1), some (.int x1), some (.int x2), some (.int x3)] [] h Q :=
  am_aload_n d_Hole_become_96 rfl (i := 0) rfl <|
    am_iload_n d_Hole_become_97 rfl (i := 3) rfl <|
    am_putI (ci := 1) (i := 5) rfl rfl rfl (Nat.le_of_ble_eq_true rfl) w_127 rfl rfl rfl d_Hole_become_98 <|
    am_goto (tgt := 133) d_Hole_become_101 (by decide) <|
    am_vret rfl d_Hole_become_133 q
theorem b_Hole_become_104 {d : Nat} {x1 : Int32} {x2 : Int32} {x3 : Int32} {h : am_H} {Q : am_Q} (q : Q none (am_pI h 1 6 x3)) : am_W (X_Hole_become d) 104 [some (.ref 1), some (.int x1), some (.int x2), some (.int x3)] [] h Q :=
  am_aload_n d_Hole_become_104 rfl (i := 0) rfl <|
    am_iload_n d_Hole_become_105 rfl (i := 3) rfl <|
    am_putI (ci := 1) (i := 6) rfl rfl rfl (Nat.le_of_ble_eq_true rfl) w_128 rfl rfl rfl d_Hole_become_106 <|
    am_goto (tgt := 133) d_Hole_become_109 (by decide) <|
    am_vret rfl d_Hole_become_133 q
theorem b_Hole_become_112 {d : Nat} {x1 : Int32} {x2 : Int32} {x3 : Int32} {h : am_H} {Q : am_Q} (q : Q none (am_pI h 1 7 x3)) : am_W (X_Hole_become d) 112 [some (.ref 1), some (.int x1), some (.int x2), some (.int x3)] [] h Q :=
  am_aload_n d_Hole_become_112 rfl (i := 0) rfl <|
    am_iload_n d_Hole_become_113 rfl (i := 3) rfl <|
    am_putI (ci := 1) (i := 7) rfl rfl rfl (Nat.le_of_ble_eq_true rfl) w_129 rfl rfl rfl d_Hole_become_114 <|
    am_goto (tgt := 133) d_Hole_become_117 (by decide) <|
    am_vret rfl d_Hole_become_133 q
theorem b_Hole_become_120 {d : Nat} {x1 : Int32} {x2 : Int32} {x3 : Int32} {h : am_H} {Q : am_Q} (q : Q none (am_pI h 1 8 x3)) : am_W (X_Hole_become d) 120 [some (.ref 1), some (.int x1), some (.int x2), some (.int x3)] [] h Q :=
  am_aload_n d_Hole_become_120 rfl (i := 0) rfl <|
    am_iload_n d_Hole_become_121 rfl (i := 3) rfl <|
    am_putI (ci := 1) (i := 8) rfl rfl rfl (Nat.le_of_ble_eq_true rfl) w_130 rfl rfl rfl d_Hole_become_122 <|
    am_goto (tgt := 133) d_Hole_become_125 (by decide) <|
    am_vret rfl d_Hole_become_133 q
theorem b_Hole_become_128 {d : Nat} {x1 : Int32} {x2 : Int32} {x3 : Int32} {h : am_H} {Q : am_Q} (q : Q none (am_pI h 1 9 x3)) : am_W (X_Hole_become d) 128 [some (.ref 1), some (.int x1), some (.int x2), some (.int x3)] [] h Q :=
  am_aload_n d_Hole_become_128 rfl (i := 0) rfl <|
    am_iload_n d_Hole_become_129 rfl (i := 3) rfl <|
    am_putI (ci := 1) (i := 9) rfl rfl rfl (Nat.le_of_ble_eq_true rfl) w_131 rfl rfl rfl d_Hole_become_130 <|
    am_vret rfl d_Hole_become_133 q
theorem t_Hole_become_56 {d : Nat} {x1 : Int32} {x2 : Int32} {x3 : Int32} {h : am_H} {Q : am_Q} {res : am_H} (e : f_Hole_become_56 h x1 x3 = some res) (q : Q none res) : am_W (X_Hole_become (d + 2)) 56 [some (.ref 1), some (.int x1), some (.int x2), some (.int x3)] [] h Q :=
  b_Hole_become_56 (d := (d + 2)) (q0 := (am_okv (am_gd e))) (q := (am_rVpi (am_ga e) q))
theorem t_Hole_become_66 {d : Nat} {x1 : Int32} {x2 : Int32} {x3 : Int32} {h : am_H} {Q : am_Q} {res : am_H} (e : f_Hole_become_66 h x1 x3 = some res) (q : Q none res) : am_W (X_Hole_become (d + 2)) 66 [some (.ref 1), some (.int x1), some (.int x2), some (.int x3)] [] h Q :=
  b_Hole_become_66 (d := (d + 2)) (q0 := (am_okv (am_gd e))) (q := (am_rVpi (am_ga e) q))
theorem t_Hole_become_76 {d : Nat} {x1 : Int32} {x2 : Int32} {x3 : Int32} {h : am_H} {Q : am_Q} {res : am_H} (e : f_Hole_become_76 h x1 x3 = some res) (q : Q none res) : am_W (X_Hole_become (d + 2)) 76 [some (.ref 1), some (.int x1), some (.int x2), some (.int x3)] [] h Q :=
  b_Hole_become_76 (d := (d + 2)) (q0 := (am_okv (am_gd e))) (q := (am_rVpi (am_ga e) q))
theorem t_Hole_become_86 {d : Nat} {x1 : Int32} {x2 : Int32} {x3 : Int32} {h : am_H} {Q : am_Q} {res : am_H} (e : f_Hole_become_86 h x1 x3 = some res) (q : Q none res) : am_W (X_Hole_become (d + 2)) 86 [some (.ref 1), some (.int x1), some (.int x2), some (.int x3)] [] h Q :=
  b_Hole_become_86 (d := (d + 2)) (q0 := (am_okv (am_gd e))) (q := (am_rVpi (am_ga e) q))
theorem t_Hole_become_96 {d : Nat} {x1 : Int32} {x2 : Int32} {x3 : Int32} {h : am_H} {Q : am_Q} {res : am_H} (e : f_Hole_become_96 h x3 = some res) (q : Q none res) : am_W (X_Hole_become (d + 2)) 96 [some (.ref 1), some (.int x1), some (.int x2), some (.int x3)] [] h Q :=
  b_Hole_become_96 (d := (d + 2)) (q := (am_rVpi e q))
theorem t_Hole_become_104 {d : Nat} {x1 : Int32} {x2 : Int32} {x3 : Int32} {h : am_H} {Q : am_Q} {res : am_H} (e : f_Hole_become_104 h x3 = some res) (q : Q none res) : am_W (X_Hole_become (d + 2)) 104 [some (.ref 1), some (.int x1), some (.int x2), some (.int x3)] [] h Q :=
  b_Hole_become_104 (d := (d + 2)) (q := (am_rVpi e q))
theorem t_Hole_become_112 {d : Nat} {x1 : Int32} {x2 : Int32} {x3 : Int32} {h : am_H} {Q : am_Q} {res : am_H} (e : f_Hole_become_112 h x3 = some res) (q : Q none res) : am_W (X_Hole_become (d + 2)) 112 [some (.ref 1), some (.int x1), some (.int x2), some (.int x3)] [] h Q :=
  b_Hole_become_112 (d := (d + 2)) (q := (am_rVpi e q))
theorem t_Hole_become_120 {d : Nat} {x1 : Int32} {x2 : Int32} {x3 : Int32} {h : am_H} {Q : am_Q} {res : am_H} (e : f_Hole_become_120 h x3 = some res) (q : Q none res) : am_W (X_Hole_become (d + 2)) 120 [some (.ref 1), some (.int x1), some (.int x2), some (.int x3)] [] h Q :=
  b_Hole_become_120 (d := (d + 2)) (q := (am_rVpi e q))
theorem t_Hole_become_128 {d : Nat} {x1 : Int32} {x2 : Int32} {x3 : Int32} {h : am_H} {Q : am_Q} {res : am_H} (e : f_Hole_become_128 h x3 = some res) (q : Q none res) : am_W (X_Hole_become (d + 2)) 128 [some (.ref 1), some (.int x1), some (.int x2), some (.int x3)] [] h Q :=
  b_Hole_become_128 (d := (d + 2)) (q := (am_rVpi e q))
theorem t_Hole_become_10 {d : Nat} {x1 : Int32} {x2 : Int32} {x3 : Int32} {h : am_H} {Q : am_Q} {res : am_H} (e : f_Hole_become_10 h x1 x2 x3 = some res) (q : Q none res) : am_W (X_Hole_become (d + 2)) 10 [some (.ref 1), some (.int x1), some (.int x2), some (.int x3)] [] h Q :=
  b_Hole_become_10 (d := (d + 2)) (k0 := fun c => (t_Hole_become_56 (am_ift e c) q)) (k1 := fun c => (t_Hole_become_66 (am_ift (am_ife e (fun z => absurd (c.symm.trans z) (by decide))) c) q)) (k2 := fun c => (t_Hole_become_76 (am_ift (am_ife (am_ife e (fun z => absurd (c.symm.trans z) (by decide))) (fun z => absurd (c.symm.trans z) (by decide))) c) q)) (k3 := fun c => (t_Hole_become_86 (am_ift (am_ife (am_ife (am_ife e (fun z => absurd (c.symm.trans z) (by decide))) (fun z => absurd (c.symm.trans z) (by decide))) (fun z => absurd (c.symm.trans z) (by decide))) c) q)) (k4 := fun c => (t_Hole_become_96 (am_ift (am_ife (am_ife (am_ife (am_ife e (fun z => absurd (c.symm.trans z) (by decide))) (fun z => absurd (c.symm.trans z) (by decide))) (fun z => absurd (c.symm.trans z) (by decide))) (fun z => absurd (c.symm.trans z) (by decide))) c) q)) (k5 := fun c => (t_Hole_become_104 (am_ift (am_ife (am_ife (am_ife (am_ife (am_ife e (fun z => absurd (c.symm.trans z) (by decide))) (fun z => absurd (c.symm.trans z) (by decide))) (fun z => absurd (c.symm.trans z) (by decide))) (fun z => absurd (c.symm.trans z) (by decide))) (fun z => absurd (c.symm.trans z) (by decide))) c) q)) (k6 := fun c => (t_Hole_become_112 (am_ift (am_ife (am_ife (am_ife (am_ife (am_ife (am_ife e (fun z => absurd (c.symm.trans z) (by decide))) (fun z => absurd (c.symm.trans z) (by decide))) (fun z => absurd (c.symm.trans z) (by decide))) (fun z => absurd (c.symm.trans z) (by decide))) (fun z => absurd (c.symm.trans z) (by decide))) (fun z => absurd (c.symm.trans z) (by decide))) c) q)) (k7 := fun c => (t_Hole_become_120 (am_ift (am_ife (am_ife (am_ife (am_ife (am_ife (am_ife (am_ife e (fun z => absurd (c.symm.trans z) (by decide))) (fun z => absurd (c.symm.trans z) (by decide))) (fun z => absurd (c.symm.trans z) (by decide))) (fun z => absurd (c.symm.trans z) (by decide))) (fun z => absurd (c.symm.trans z) (by decide))) (fun z => absurd (c.symm.trans z) (by decide))) (fun z => absurd (c.symm.trans z) (by decide))) c) q)) (kd := fun c0 c1 c2 c3 c4 c5 c6 c7 => (t_Hole_become_128 (am_ife (am_ife (am_ife (am_ife (am_ife (am_ife (am_ife (am_ife e c0) c1) c2) c3) c4) c5) c6) c7) q))
theorem t_Hole_become_9 {d : Nat} {x1 : Int32} {x2 : Int32} {x3 : Int32} {h : am_H} {Q : am_Q} {res : am_H} (e : f_Hole_become_9 h = some res) (q : Q none res) : am_W (X_Hole_become (d + 2)) 9 [some (.ref 1), some (.int x1), some (.int x2), some (.int x3)] [] h Q :=
  b_Hole_become_9 (d := (d + 2)) (q := (am_rVpi e q))
theorem t_Hole_become_6 {d : Nat} {x1 : Int32} {x2 : Int32} {x3 : Int32} {y0 : Bool} {h : am_H} {Q : am_Q} {res : am_H} (e : f_Hole_become_6 h x1 x2 x3 y0 = some res) (q : Q none res) : am_W (X_Hole_become (d + 2)) 6 [some (.ref 1), some (.int x1), some (.int x2), some (.int x3)] [.int (am_b y0)] h Q :=
  b_Hole_become_6 (d := (d + 2)) (kt := fun c => (t_Hole_become_10 (am_ift e (am_bn c)) q)) (kf := fun c => (t_Hole_become_9 (am_iff e (am_bz c)) q))
theorem t_Hole_become_0 {d : Nat} {x1 : Int32} {x2 : Int32} {x3 : Int32} {h : am_H} {Q : am_Q} {res : am_H} (e : f_Hole_become h x1 x2 x3 = some res) (q : Q none res) : am_W (X_Hole_become (d + 2)) 0 [some (.ref 1), some (.int x1), some (.int x2), some (.int x3)] [] h Q :=
  b_Hole_become_0 (d := (d + 1)) (k := c_Hole_hasNumber (d := d) rfl (t_Hole_become_6 e q))
theorem c_Hole_become {d : Nat} {x1 : Int32} {x2 : Int32} {x3 : Int32} {h : am_H} {Q : am_Q} {res : am_H} (e : f_Hole_become h x1 x2 x3 = some res) (q : Q none res) : m_Hole_become (d + 2) [.ref 1, .int x1, .int x2, .int x3] h Q :=
  e_Hole_become (t_Hole_become_0 e q)
theorem d_Club_alter_0 : decode prog_1_method_8_code 0 = .ok (.aload_n 0, 1) := by decide +kernel
theorem d_Club_alter_1 : decode prog_1_method_8_code 1 = .ok (.getfield 12, 3) := by decide +kernel
theorem d_Club_alter_4 : decode prog_1_method_8_code 4 = .ok (.iload_n 1, 1) := by decide +kernel
theorem d_Club_alter_5 : decode prog_1_method_8_code 5 = .ok (.iload_n 2, 1) := by decide +kernel
theorem d_Club_alter_6 : decode prog_1_method_8_code 6 = .ok (.iload_n 3, 1) := by decide +kernel
theorem d_Club_alter_7 : decode prog_1_method_8_code 7 = .ok (.invokevirtual 143, 3) := by decide +kernel
theorem d_Club_alter_10 : decode prog_1_method_8_code 10 = .ok (.aload_n 0, 1) := by decide +kernel
theorem d_Club_alter_11 : decode prog_1_method_8_code 11 = .ok (.getfield 30, 3) := by decide +kernel
theorem d_Club_alter_14 : decode prog_1_method_8_code 14 = .ok (.invokevirtual 88, 3) := by decide +kernel
theorem d_Club_alter_17 : decode prog_1_method_8_code 17 = .ok (.return_, 1) := by decide +kernel
theorem b_Club_alter_0 {d : Nat} {x1 : Int32} {x2 : Int32} {x3 : Int32} {h : am_H} {Q : am_Q} (k : m_Hole_become d [.ref 1, .int x1, .int x2, .int x3] h (fun r hh => am_W (X_Club_alter (d + 1)) 10 [some (.ref 0), some (.int x1), some (.int x2), some (.int x3)] (r.toList ++ []) hh Q)) : am_W (X_Club_alter (d + 1)) 0 [some (.ref 0), some (.int x1), some (.int x2), some (.int x3)] [] h Q :=
  am_aload_n d_Club_alter_0 rfl (i := 0) rfl <|
    am_getR (ci := 0) (i := 0) rfl rfl rfl (Nat.le_of_ble_eq_true rfl) w_362 d_Club_alter_1 <|
    am_iload_n d_Club_alter_4 rfl (i := 1) rfl <|
    am_iload_n d_Club_alter_5 rfl (i := 2) rfl <|
    am_iload_n d_Club_alter_6 rfl (i := 3) rfl <|
    am_callV (vs := [.int x1, .int x2, .int x3]) (st := []) (k := 1) (ci := 1) rfl d_Club_alter_7 rfl rfl w_500 w_501 w_502 w_84 w_503 p_Hole_become (Nat.le_of_ble_eq_true rfl) (Nat.le_of_ble_eq_true rfl) rfl k
theorem b_Club_alter_10 {d : Nat} {x1 : Int32} {x2 : Int32} {x3 : Int32} {h : am_H} {Q : am_Q} (k : m_Reck_forget d [.ref 12] h (fun r hh => am_W (X_Club_alter (d + 1)) 17 [some (.ref 0), some (.int x1), some (.int x2), some (.int x3)] (r.toList ++ []) hh Q)) : am_W (X_Club_alter (d + 1)) 10 [some (.ref 0), some (.int x1), some (.int x2), some (.int x3)] [] h Q :=
  am_aload_n d_Club_alter_10 rfl (i := 0) rfl <|
    am_getR (ci := 0) (i := 2) rfl rfl rfl (Nat.le_of_ble_eq_true rfl) w_364 d_Club_alter_11 <|
    am_callV (vs := []) (st := []) (k := 12) (ci := 3) rfl d_Club_alter_14 rfl rfl w_408 w_409 w_410 w_87 w_411 p_Reck_forget (Nat.le_of_ble_eq_true rfl) (Nat.le_of_ble_eq_true rfl) rfl k
theorem b_Club_alter_17 {d : Nat} {x1 : Int32} {x2 : Int32} {x3 : Int32} {h : am_H} {Q : am_Q} (q : Q none h) : am_W (X_Club_alter d) 17 [some (.ref 0), some (.int x1), some (.int x2), some (.int x3)] [] h Q :=
  am_vret rfl d_Club_alter_17 q
theorem t_Club_alter_17 {d : Nat} {x1 : Int32} {x2 : Int32} {x3 : Int32} {h : am_H} {Q : am_Q} {res : am_H} (e : f_Club_alter_17 h = some res) (q : Q none res) : am_W (X_Club_alter (d + 3)) 17 [some (.ref 0), some (.int x1), some (.int x2), some (.int x3)] [] h Q :=
  b_Club_alter_17 (d := (d + 3)) (q := (am_rVpi e q))
theorem t_Club_alter_10 {d : Nat} {x1 : Int32} {x2 : Int32} {x3 : Int32} {h : am_H} {Q : am_Q} {res : am_H} (e : f_Club_alter_10 h = some res) (q : Q none res) : am_W (X_Club_alter (d + 3)) 10 [some (.ref 0), some (.int x1), some (.int x2), some (.int x3)] [] h Q :=
  (am_bd e).elim fun p hp => b_Club_alter_10 (d := (d + 2)) (k := c_Reck_forget (d := d) hp.1 (t_Club_alter_17 hp.2 q))
theorem t_Club_alter_0 {d : Nat} {x1 : Int32} {x2 : Int32} {x3 : Int32} {h : am_H} {Q : am_Q} {res : am_H} (e : f_Club_alter h x1 x2 x3 = some res) (q : Q none res) : am_W (X_Club_alter (d + 3)) 0 [some (.ref 0), some (.int x1), some (.int x2), some (.int x3)] [] h Q :=
  (am_bd e).elim fun p hp => b_Club_alter_0 (d := (d + 2)) (k := c_Hole_become (d := d) hp.1 (t_Club_alter_10 hp.2 q))
theorem c_Club_alter {d : Nat} {x1 : Int32} {x2 : Int32} {x3 : Int32} {h : am_H} {Q : am_Q} {res : am_H} (e : f_Club_alter h x1 x2 x3 = some res) (q : Q none res) : m_Club_alter (d + 3) [.ref 0, .int x1, .int x2, .int x3] h Q :=
  e_Club_alter (t_Club_alter_0 e q)
theorem d_Changes_dropOldest_0 : decode prog_2_method_5_code 0 = .ok (.aload_n 0, 1) := by decide +kernel
theorem d_Changes_dropOldest_1 : decode prog_2_method_5_code 1 = .ok (.getfield 9, 3) := by decide +kernel
theorem d_Changes_dropOldest_4 : decode prog_2_method_5_code 4 = .ok (.iconst 1, 1) := by decide +kernel
theorem d_Changes_dropOldest_5 : decode prog_2_method_5_code 5 = .ok (.aload_n 0, 1) := by decide +kernel
theorem d_Changes_dropOldest_6 : decode prog_2_method_5_code 6 = .ok (.getfield 9, 3) := by decide +kernel
theorem d_Changes_dropOldest_9 : decode prog_2_method_5_code 9 = .ok (.iconst 0, 1) := by decide +kernel
theorem d_Changes_dropOldest_10 : decode prog_2_method_5_code 10 = .ok (.bipush 39, 2) := by decide +kernel
theorem d_Changes_dropOldest_12 : decode prog_2_method_5_code 12 = .ok (.invokestatic 32, 3) := by decide +kernel
theorem d_Changes_dropOldest_15 : decode prog_2_method_5_code 15 = .ok (.aload_n 0, 1) := by decide +kernel
theorem d_Changes_dropOldest_16 : decode prog_2_method_5_code 16 = .ok (.getfield 13, 3) := by decide +kernel
theorem d_Changes_dropOldest_19 : decode prog_2_method_5_code 19 = .ok (.iconst 1, 1) := by decide +kernel
theorem d_Changes_dropOldest_20 : decode prog_2_method_5_code 20 = .ok (.aload_n 0, 1) := by decide +kernel
theorem d_Changes_dropOldest_21 : decode prog_2_method_5_code 21 = .ok (.getfield 13, 3) := by decide +kernel
theorem d_Changes_dropOldest_24 : decode prog_2_method_5_code 24 = .ok (.iconst 0, 1) := by decide +kernel
theorem d_Changes_dropOldest_25 : decode prog_2_method_5_code 25 = .ok (.bipush 39, 2) := by decide +kernel
theorem d_Changes_dropOldest_27 : decode prog_2_method_5_code 27 = .ok (.invokestatic 32, 3) := by decide +kernel
theorem d_Changes_dropOldest_30 : decode prog_2_method_5_code 30 = .ok (.aload_n 0, 1) := by decide +kernel
theorem d_Changes_dropOldest_31 : decode prog_2_method_5_code 31 = .ok (.getfield 16, 3) := by decide +kernel
theorem d_Changes_dropOldest_34 : decode prog_2_method_5_code 34 = .ok (.iconst 1, 1) := by decide +kernel
theorem d_Changes_dropOldest_35 : decode prog_2_method_5_code 35 = .ok (.aload_n 0, 1) := by decide +kernel
theorem d_Changes_dropOldest_36 : decode prog_2_method_5_code 36 = .ok (.getfield 16, 3) := by decide +kernel
theorem d_Changes_dropOldest_39 : decode prog_2_method_5_code 39 = .ok (.iconst 0, 1) := by decide +kernel
theorem d_Changes_dropOldest_40 : decode prog_2_method_5_code 40 = .ok (.bipush 39, 2) := by decide +kernel
theorem d_Changes_dropOldest_42 : decode prog_2_method_5_code 42 = .ok (.invokestatic 32, 3) := by decide +kernel
theorem d_Changes_dropOldest_45 : decode prog_2_method_5_code 45 = .ok (.aload_n 0, 1) := by decide +kernel
theorem d_Changes_dropOldest_46 : decode prog_2_method_5_code 46 = .ok (.getfield 19, 3) := by decide +kernel
theorem d_Changes_dropOldest_49 : decode prog_2_method_5_code 49 = .ok (.iconst 1, 1) := by decide +kernel
theorem d_Changes_dropOldest_50 : decode prog_2_method_5_code 50 = .ok (.aload_n 0, 1) := by decide +kernel
theorem d_Changes_dropOldest_51 : decode prog_2_method_5_code 51 = .ok (.getfield 19, 3) := by decide +kernel
theorem d_Changes_dropOldest_54 : decode prog_2_method_5_code 54 = .ok (.iconst 0, 1) := by decide +kernel
theorem d_Changes_dropOldest_55 : decode prog_2_method_5_code 55 = .ok (.bipush 39, 2) := by decide +kernel
theorem d_Changes_dropOldest_57 : decode prog_2_method_5_code 57 = .ok (.invokestatic 32, 3) := by decide +kernel
theorem d_Changes_dropOldest_60 : decode prog_2_method_5_code 60 = .ok (.aload_n 0, 1) := by decide +kernel
theorem d_Changes_dropOldest_61 : decode prog_2_method_5_code 61 = .ok (.bipush 39, 2) := by decide +kernel
theorem d_Changes_dropOldest_63 : decode prog_2_method_5_code 63 = .ok (.putfield 22, 3) := by decide +kernel
theorem d_Changes_dropOldest_66 : decode prog_2_method_5_code 66 = .ok (.return_, 1) := by decide +kernel
theorem b_Changes_dropOldest_0 {d : Nat} {h : am_H} {Q : am_Q} (k : am_W (X_Changes_dropOldest d) 15 [some (.ref 22)] [] (am_cI h 23 23 (1 : Int32).toNatClampNeg (0 : Int32).toNatClampNeg (39 : Int32).toNatClampNeg) Q) : am_W (X_Changes_dropOldest d) 0 [some (.ref 22)] [] h Q :=
  am_aload_n d_Changes_dropOldest_0 rfl (i := 0) rfl <|
    am_getR (ci := 7) (i := 0) rfl rfl rfl (Nat.le_of_ble_eq_true rfl) w_304 d_Changes_dropOldest_1 <|
    am_iconst (v := 1) d_Changes_dropOldest_4 (by decide) <|
    am_aload_n d_Changes_dropOldest_5 rfl (i := 0) rfl <|
    am_getR (ci := 7) (i := 0) rfl rfl rfl (Nat.le_of_ble_eq_true rfl) w_304 d_Changes_dropOldest_6 <|
    am_iconst (v := 0) d_Changes_dropOldest_9 (by decide) <|
    am_bipush (v := 39) d_Changes_dropOldest_10 (by decide) <|
    am_copyI d_Changes_dropOldest_12 w_493 w_495 w_494 w_96 rfl rfl (by decide) (by decide) (by decide) (by decide) (by decide) (Nat.le_of_ble_eq_true rfl) k
theorem b_Changes_dropOldest_15 {d : Nat} {h : am_H} {Q : am_Q} (k : am_W (X_Changes_dropOldest d) 30 [some (.ref 22)] [] (am_cI h 24 24 (1 : Int32).toNatClampNeg (0 : Int32).toNatClampNeg (39 : Int32).toNatClampNeg) Q) : am_W (X_Changes_dropOldest d) 15 [some (.ref 22)] [] h Q :=
  am_aload_n d_Changes_dropOldest_15 rfl (i := 0) rfl <|
    am_getR (ci := 7) (i := 1) rfl rfl rfl (Nat.le_of_ble_eq_true rfl) w_305 d_Changes_dropOldest_16 <|
    am_iconst (v := 1) d_Changes_dropOldest_19 (by decide) <|
    am_aload_n d_Changes_dropOldest_20 rfl (i := 0) rfl <|
    am_getR (ci := 7) (i := 1) rfl rfl rfl (Nat.le_of_ble_eq_true rfl) w_305 d_Changes_dropOldest_21 <|
    am_iconst (v := 0) d_Changes_dropOldest_24 (by decide) <|
    am_bipush (v := 39) d_Changes_dropOldest_25 (by decide) <|
    am_copyI d_Changes_dropOldest_27 w_493 w_495 w_494 w_96 rfl rfl (by decide) (by decide) (by decide) (by decide) (by decide) (Nat.le_of_ble_eq_true rfl) k
theorem b_Changes_dropOldest_30 {d : Nat} {h : am_H} {Q : am_Q} (k : am_W (X_Changes_dropOldest d) 45 [some (.ref 22)] [] (am_cI h 25 25 (1 : Int32).toNatClampNeg (0 : Int32).toNatClampNeg (39 : Int32).toNatClampNeg) Q) : am_W (X_Changes_dropOldest d) 30 [some (.ref 22)] [] h Q :=
  am_aload_n d_Changes_dropOldest_30 rfl (i := 0) rfl <|
    am_getR (ci := 7) (i := 2) rfl rfl rfl (Nat.le_of_ble_eq_true rfl) w_306 d_Changes_dropOldest_31 <|
    am_iconst (v := 1) d_Changes_dropOldest_34 (by decide) <|
    am_aload_n d_Changes_dropOldest_35 rfl (i := 0) rfl <|
    am_getR (ci := 7) (i := 2) rfl rfl rfl (Nat.le_of_ble_eq_true rfl) w_306 d_Changes_dropOldest_36 <|
    am_iconst (v := 0) d_Changes_dropOldest_39 (by decide) <|
    am_bipush (v := 39) d_Changes_dropOldest_40 (by decide) <|
    am_copyI d_Changes_dropOldest_42 w_493 w_495 w_494 w_96 rfl rfl (by decide) (by decide) (by decide) (by decide) (by decide) (Nat.le_of_ble_eq_true rfl) k
theorem b_Changes_dropOldest_45 {d : Nat} {h : am_H} {Q : am_Q} (k : am_W (X_Changes_dropOldest d) 60 [some (.ref 22)] [] (am_cI h 26 26 (1 : Int32).toNatClampNeg (0 : Int32).toNatClampNeg (39 : Int32).toNatClampNeg) Q) : am_W (X_Changes_dropOldest d) 45 [some (.ref 22)] [] h Q :=
  am_aload_n d_Changes_dropOldest_45 rfl (i := 0) rfl <|
    am_getR (ci := 7) (i := 3) rfl rfl rfl (Nat.le_of_ble_eq_true rfl) w_307 d_Changes_dropOldest_46 <|
    am_iconst (v := 1) d_Changes_dropOldest_49 (by decide) <|
    am_aload_n d_Changes_dropOldest_50 rfl (i := 0) rfl <|
    am_getR (ci := 7) (i := 3) rfl rfl rfl (Nat.le_of_ble_eq_true rfl) w_307 d_Changes_dropOldest_51 <|
    am_iconst (v := 0) d_Changes_dropOldest_54 (by decide) <|
    am_bipush (v := 39) d_Changes_dropOldest_55 (by decide) <|
    am_copyI d_Changes_dropOldest_57 w_493 w_495 w_494 w_96 rfl rfl (by decide) (by decide) (by decide) (by decide) (by decide) (Nat.le_of_ble_eq_true rfl) k
theorem b_Changes_dropOldest_60 {d : Nat} {h : am_H} {Q : am_Q} (q : Q none (am_pI h 22 4 39)) : am_W (X_Changes_dropOldest d) 60 [some (.ref 22)] [] h Q :=
  am_aload_n d_Changes_dropOldest_60 rfl (i := 0) rfl <|
    am_bipush (v := 39) d_Changes_dropOldest_61 (by decide) <|
    am_putI (ci := 7) (i := 4) rfl rfl rfl (Nat.le_of_ble_eq_true rfl) w_308 rfl rfl rfl d_Changes_dropOldest_63 <|
    am_vret rfl d_Changes_dropOldest_66 q
theorem t_Changes_dropOldest_60 {d : Nat} {h : am_H} {Q : am_Q} {res : am_H} (e : f_Changes_dropOldest_60 h = res) (q : Q none res) : am_W (X_Changes_dropOldest d) 60 [some (.ref 22)] [] h Q :=
  b_Changes_dropOldest_60 (d := d) (q := (am_rVti e q))
theorem t_Changes_dropOldest_45 {d : Nat} {h : am_H} {Q : am_Q} {res : am_H} (e : f_Changes_dropOldest_45 h = res) (q : Q none res) : am_W (X_Changes_dropOldest d) 45 [some (.ref 22)] [] h Q :=
  b_Changes_dropOldest_45 (d := d) (k := (t_Changes_dropOldest_60 e q))
theorem t_Changes_dropOldest_30 {d : Nat} {h : am_H} {Q : am_Q} {res : am_H} (e : f_Changes_dropOldest_30 h = res) (q : Q none res) : am_W (X_Changes_dropOldest d) 30 [some (.ref 22)] [] h Q :=
  b_Changes_dropOldest_30 (d := d) (k := (t_Changes_dropOldest_45 e q))
theorem t_Changes_dropOldest_15 {d : Nat} {h : am_H} {Q : am_Q} {res : am_H} (e : f_Changes_dropOldest_15 h = res) (q : Q none res) : am_W (X_Changes_dropOldest d) 15 [some (.ref 22)] [] h Q :=
  b_Changes_dropOldest_15 (d := d) (k := (t_Changes_dropOldest_30 e q))
theorem t_Changes_dropOldest_0 {d : Nat} {h : am_H} {Q : am_Q} {res : am_H} (e : f_Changes_dropOldest h = res) (q : Q none res) : am_W (X_Changes_dropOldest d) 0 [some (.ref 22)] [] h Q :=
  b_Changes_dropOldest_0 (d := d) (k := (t_Changes_dropOldest_15 e q))
theorem c_Changes_dropOldest {d : Nat} {h : am_H} {Q : am_Q} {res : am_H} (e : f_Changes_dropOldest h = res) (q : Q none res) : m_Changes_dropOldest d [.ref 22] h Q :=
  e_Changes_dropOldest (t_Changes_dropOldest_0 e q)
theorem d_Changes_remember_0 : decode prog_2_method_4_code 0 = .ok (.aload_n 0, 1) := by decide +kernel
theorem d_Changes_remember_1 : decode prog_2_method_4_code 1 = .ok (.getfield 22, 3) := by decide +kernel
theorem d_Changes_remember_4 : decode prog_2_method_4_code 4 = .ok (.bipush 40, 2) := by decide +kernel
theorem d_Changes_remember_6 : decode prog_2_method_4_code 6 = .ok (.if_icmp .lt 7, 3) := by decide +kernel
theorem d_Changes_remember_9 : decode prog_2_method_4_code 9 = .ok (.aload_n 0, 1) := by decide +kernel
theorem d_Changes_remember_10 : decode prog_2_method_4_code 10 = .ok (.invokevirtual 29, 3) := by decide +kernel
theorem d_Changes_remember_13 : decode prog_2_method_4_code 13 = .ok (.aload_n 0, 1) := by decide +kernel
theorem d_Changes_remember_14 : decode prog_2_method_4_code 14 = .ok (.getfield 22, 3) := by decide +kernel
theorem d_Changes_remember_17 : decode prog_2_method_4_code 17 = .ok (.ifCond .lt 12, 3) := by decide +kernel
theorem d_Changes_remember_20 : decode prog_2_method_4_code 20 = .ok (.aload_n 0, 1) := by decide +kernel
theorem d_Changes_remember_21 : decode prog_2_method_4_code 21 = .ok (.getfield 22, 3) := by decide +kernel
theorem d_Changes_remember_24 : decode prog_2_method_4_code 24 = .ok (.bipush 40, 2) := by decide +kernel
theorem d_Changes_remember_26 : decode prog_2_method_4_code 26 = .ok (.if_icmp .lt 4, 3) := by decide +kernel
theorem d_Changes_remember_29 : decode prog_2_method_4_code 29 = .ok (.return_, 1) := by decide +kernel
theorem d_Changes_remember_30 : decode prog_2_method_4_code 30 = .ok (.aload_n 0, 1) := by decide +kernel
theorem d_Changes_remember_31 : decode prog_2_method_4_code 31 = .ok (.getfield 9, 3) := by decide +kernel
theorem d_Changes_remember_34 : decode prog_2_method_4_code 34 = .ok (.aload_n 0, 1) := by decide +kernel
theorem d_Changes_remember_35 : decode prog_2_method_4_code 35 = .ok (.getfield 22, 3) := by decide +kernel
theorem d_Changes_remember_38 : decode prog_2_method_4_code 38 = .ok (.iload_n 1, 1) := by decide +kernel
theorem d_Changes_remember_39 : decode prog_2_method_4_code 39 = .ok (.iastore, 1) := by decide +kernel
theorem d_Changes_remember_40 : decode prog_2_method_4_code 40 = .ok (.aload_n 0, 1) := by decide +kernel
theorem d_Changes_remember_41 : decode prog_2_method_4_code 41 = .ok (.getfield 13, 3) := by decide +kernel
theorem d_Changes_remember_44 : decode prog_2_method_4_code 44 = .ok (.aload_n 0, 1) := by decide +kernel
theorem d_Changes_remember_45 : decode prog_2_method_4_code 45 = .ok (.getfield 22, 3) := by decide +kernel
theorem d_Changes_remember_48 : decode prog_2_method_4_code 48 = .ok (.iload_n 2, 1) := by decide +kernel
theorem d_Changes_remember_49 : decode prog_2_method_4_code 49 = .ok (.iastore, 1) := by decide +kernel
theorem d_Changes_remember_50 : decode prog_2_method_4_code 50 = .ok (.aload_n 0, 1) := by decide +kernel
theorem d_Changes_remember_51 : decode prog_2_method_4_code 51 = .ok (.getfield 16, 3) := by decide +kernel
theorem d_Changes_remember_54 : decode prog_2_method_4_code 54 = .ok (.aload_n 0, 1) := by decide +kernel
theorem d_Changes_remember_55 : decode prog_2_method_4_code 55 = .ok (.getfield 22, 3) := by decide +kernel
theorem d_Changes_remember_58 : decode prog_2_method_4_code 58 = .ok (.iload_n 3, 1) := by decide +kernel
theorem d_Changes_remember_59 : decode prog_2_method_4_code 59 = .ok (.iastore, 1) := by decide +kernel
theorem d_Changes_remember_60 : decode prog_2_method_4_code 60 = .ok (.aload_n 0, 1) := by decide +kernel
theorem d_Changes_remember_61 : decode prog_2_method_4_code 61 = .ok (.getfield 19, 3) := by decide +kernel
theorem d_Changes_remember_64 : decode prog_2_method_4_code 64 = .ok (.aload_n 0, 1) := by decide +kernel
theorem d_Changes_remember_65 : decode prog_2_method_4_code 65 = .ok (.getfield 22, 3) := by decide +kernel
theorem d_Changes_remember_68 : decode prog_2_method_4_code 68 = .ok (.iload 4, 2) := by decide +kernel
theorem d_Changes_remember_70 : decode prog_2_method_4_code 70 = .ok (.iastore, 1) := by decide +kernel
theorem d_Changes_remember_71 : decode prog_2_method_4_code 71 = .ok (.aload_n 0, 1) := by decide +kernel
theorem d_Changes_remember_72 : decode prog_2_method_4_code 72 = .ok (.dup, 1) := by decide +kernel
theorem d_Changes_remember_73 : decode prog_2_method_4_code 73 = .ok (.getfield 22, 3) := by decide +kernel
theorem d_Changes_remember_76 : decode prog_2_method_4_code 76 = .ok (.iconst 1, 1) := by decide +kernel
theorem d_Changes_remember_77 : decode prog_2_method_4_code 77 = .ok (.iadd, 1) := by decide +kernel
theorem d_Changes_remember_78 : decode prog_2_method_4_code 78 = .ok (.putfield 22, 3) := by decide +kernel
theorem d_Changes_remember_81 : decode prog_2_method_4_code 81 = .ok (.aload_n 0, 1) := by decide +kernel
theorem d_Changes_remember_82 : decode prog_2_method_4_code 82 = .ok (.iconst 0, 1) := by decide +kernel
theorem d_Changes_remember_83 : decode prog_2_method_4_code 83 = .ok (.putfield 26, 3) := by decide +kernel
theorem d_Changes_remember_86 : decode prog_2_method_4_code 86 = .ok (.return_, 1) := by decide +kernel
theorem b_Changes_remember_0 {d : Nat} {x1 : Int32} {x2 : Int32} {x3 : Int32} {x4 : Int32} {h : am_H} {Q : am_Q} (kt : (h.1 22 4) < 40 → am_W (X_Changes_remember d) 13 [some (.ref 22), some (.int x1), some (.int x2), some (.int x3), some (.int x4)] [] h Q) (kf : ¬ (h.1 22 4) < 40 → am_W (X_Changes_remember d) 9 [some (.ref 22), some (.int x1), some (.int x2), some (.int x3), some (.int x4)] [] h Q) : am_W (X_Changes_remember d) 0 [some (.ref 22), some (.int x1), some (.int x2), some (.int x3), some (.int x4)] [] h Q :=
  am_aload_n d_Changes_remember_0 rfl (i := 0) rfl <|
    am_getI (ci := 7) (i := 4) rfl rfl rfl (Nat.le_of_ble_eq_true rfl) w_308 d_Changes_remember_1 <|
    am_bipush (v := 40) d_Changes_remember_4 (by decide) <|
    am_icmp_lt (tgt := 13) d_Changes_remember_6 (by decide) kt kf
theorem b_Changes_remember_9 {d : Nat} {x1 : Int32} {x2 : Int32} {x3 : Int32} {x4 : Int32} {h : am_H} {Q : am_Q} (k : m_Changes_dropOldest d [.ref 22] h (fun r hh => am_W (X_Changes_remember (d + 1)) 13 [some (.ref 22), some (.int x1), some (.int x2), some (.int x3), some (.int x4)] (r.toList ++ []) hh Q)) : am_W (X_Changes_remember (d + 1)) 9 [some (.ref 22), some (.int x1), some (.int x2), some (.int x3), some (.int x4)] [] h Q :=
  am_aload_n d_Changes_remember_9 rfl (i := 0) rfl <|
    am_callV (vs := []) (st := []) (k := 22) (ci := 7) rfl d_Changes_remember_10 rfl rfl w_489 w_491 w_2 w_91 w_492 p_Changes_dropOldest (Nat.le_of_ble_eq_true rfl) (Nat.le_of_ble_eq_true rfl) rfl k
theorem b_Changes_remember_13 {d : Nat} {x1 : Int32} {x2 : Int32} {x3 : Int32} {x4 : Int32} {h : am_H} {Q : am_Q} (kt : (h.1 22 4) < 0 → am_W (X_Changes_remember d) 29 [some (.ref 22), some (.int x1), some (.int x2), some (.int x3), some (.int x4)] [] h Q) (kf : ¬ (h.1 22 4) < 0 → am_W (X_Changes_remember d) 20 [some (.ref 22), some (.int x1), some (.int x2), some (.int x3), some (.int x4)] [] h Q) : am_W (X_Changes_remember d) 13 [some (.ref 22), some (.int x1), some (.int x2), some (.int x3), some (.int x4)] [] h Q :=
  am_aload_n d_Changes_remember_13 rfl (i := 0) rfl <|
    am_getI (ci := 7) (i := 4) rfl rfl rfl (Nat.le_of_ble_eq_true rfl) w_308 d_Changes_remember_14 <|
    am_if_lt (tgt := 29) d_Changes_remember_17 (by decide) kt kf
theorem b_Changes_remember_20 {d : Nat} {x1 : Int32} {x2 : Int32} {x3 : Int32} {x4 : Int32} {h : am_H} {Q : am_Q} (kt : (h.1 22 4) < 40 → am_W (X_Changes_remember d) 30 [some (.ref 22), some (.int x1), some (.int x2), some (.int x3), some (.int x4)] [] h Q) (kf : ¬ (h.1 22 4) < 40 → am_W (X_Changes_remember d) 29 [some (.ref 22), some (.int x1), some (.int x2), some (.int x3), some (.int x4)] [] h Q) : am_W (X_Changes_remember d) 20 [some (.ref 22), some (.int x1), some (.int x2), some (.int x3), some (.int x4)] [] h Q :=
  am_aload_n d_Changes_remember_20 rfl (i := 0) rfl <|
    am_getI (ci := 7) (i := 4) rfl rfl rfl (Nat.le_of_ble_eq_true rfl) w_308 d_Changes_remember_21 <|
    am_bipush (v := 40) d_Changes_remember_24 (by decide) <|
    am_icmp_lt (tgt := 30) d_Changes_remember_26 (by decide) kt kf
theorem b_Changes_remember_29 {d : Nat} {x1 : Int32} {x2 : Int32} {x3 : Int32} {x4 : Int32} {h : am_H} {Q : am_Q} (q : Q none h) : am_W (X_Changes_remember d) 29 [some (.ref 22), some (.int x1), some (.int x2), some (.int x3), some (.int x4)] [] h Q :=
  am_vret rfl d_Changes_remember_29 q
theorem b_Changes_remember_30 {d : Nat} {x1 : Int32} {x2 : Int32} {x3 : Int32} {x4 : Int32} {h : am_H} {Q : am_Q} (q0 : vp_in (h.1 22 4) 40) (q1 : vp_in ((am_pI h 23 (h.1 22 4).toNatClampNeg x1).1 22 4) 40) (q2 : vp_in ((am_pI (am_pI h 23 (h.1 22 4).toNatClampNeg x1) 24 ((am_pI h 23 (h.1 22 4).toNatClampNeg x1).1 22 4).toNatClampNeg x2).1 22 4) 40) (q3 : vp_in ((am_pI (am_pI (am_pI h 23 (h.1 22 4).toNatClampNeg x1) 24 ((am_pI h 23 (h.1 22 4).toNatClampNeg x1).1 22 4).toNatClampNeg x2) 25 ((am_pI (am_pI h 23 (h.1 22 4).toNatClampNeg x1) 24 ((am_pI h 23 (h.1 22 4).toNatClampNeg x1).1 22 4).toNatClampNeg x2).1 22 4).toNatClampNeg x3).1 22 4) 40) (q : Q none (am_pI (am_pI (am_pI (am_pI (am_pI (am_pI h 23 (h.1 22 4).toNatClampNeg x1) 24 ((am_pI h 23 (h.1 22 4).toNatClampNeg x1).1 22 4).toNatClampNeg x2) 25 ((am_pI (am_pI h 23 (h.1 22 4).toNatClampNeg x1) 24 ((am_pI h 23 (h.1 22 4).toNatClampNeg x1).1 22 4).toNatClampNeg x2).1 22 4).toNatClampNeg x3) 26 ((am_pI (am_pI (am_pI h 23 (h.1 22 4).toNatClampNeg x1) 24 ((am_pI h 23 (h.1 22 4).toNatClampNeg x1).1 22 4).toNatClampNeg x2) 25 ((am_pI (am_pI h 23 (h.1 22 4).toNatClampNeg x1) 24 ((am_pI h 23 (h.1 22 4).toNatClampNeg x1).1 22 4).toNatClampNeg x2).1 22 4).toNatClampNeg x3).1 22 4).toNatClampNeg x4) 22 4 (((am_pI (am_pI (am_pI (am_pI h 23 (h.1 22 4).toNatClampNeg x1) 24 ((am_pI h 23 (h.1 22 4).toNatClampNeg x1).1 22 4).toNatClampNeg x2) 25 ((am_pI (am_pI h 23 (h.1 22 4).toNatClampNeg x1) 24 ((am_pI h 23 (h.1 22 4).toNatClampNeg x1).1 22 4).toNatClampNeg x2).1 22 4).toNatClampNeg x3) 26 ((am_pI (am_pI (am_pI h 23 (h.1 22 4).toNatClampNeg x1) 24 ((am_pI h 23 (h.1 22 4).toNatClampNeg x1).1 22 4).toNatClampNeg x2) 25 ((am_pI (am_pI h 23 (h.1 22 4).toNatClampNeg x1) 24 ((am_pI h 23 (h.1 22 4).toNatClampNeg x1).1 22 4).toNatClampNeg x2).1 22 4).toNatClampNeg x3).1 22 4).toNatClampNeg x4).1 22 4) + 1)) 22 5 0)) : am_W (X_Changes_remember d) 30 [some (.ref 22), some (.int x1), some (.int x2), some (.int x3), some (.int x4)] [] h Q :=
  am_aload_n d_Changes_remember_30 rfl (i := 0) rfl <|
    am_getR (ci := 7) (i := 0) rfl rfl rfl (Nat.le_of_ble_eq_true rfl) w_304 d_Changes_remember_31 <|
    am_aload_n d_Changes_remember_34 rfl (i := 0) rfl <|
    am_getI (ci := 7) (i := 4) rfl rfl rfl (Nat.le_of_ble_eq_true rfl) w_308 d_Changes_remember_35 <|
    am_iload_n d_Changes_remember_38 rfl (i := 1) rfl <|
    am_iast rfl q0 d_Changes_remember_39 <|
    am_aload_n d_Changes_remember_40 rfl (i := 0) rfl <|
    am_getR (ci := 7) (i := 1) rfl rfl rfl (Nat.le_of_ble_eq_true rfl) w_305 d_Changes_remember_41 <|
    am_aload_n d_Changes_remember_44 rfl (i := 0) rfl <|
    am_getI (ci := 7) (i := 4) rfl rfl rfl (Nat.le_of_ble_eq_true rfl) w_308 d_Changes_remember_45 <|
    am_iload_n d_Changes_remember_48 rfl (i := 2) rfl <|
    am_iast rfl q1 d_Changes_remember_49 <|
    am_aload_n d_Changes_remember_50 rfl (i := 0) rfl <|
    am_getR (ci := 7) (i := 2) rfl rfl rfl (Nat.le_of_ble_eq_true rfl) w_306 d_Changes_remember_51 <|
    am_aload_n d_Changes_remember_54 rfl (i := 0) rfl <|
    am_getI (ci := 7) (i := 4) rfl rfl rfl (Nat.le_of_ble_eq_true rfl) w_308 d_Changes_remember_55 <|
    am_iload_n d_Changes_remember_58 rfl (i := 3) rfl <|
    am_iast rfl q2 d_Changes_remember_59 <|
    am_aload_n d_Changes_remember_60 rfl (i := 0) rfl <|
    am_getR (ci := 7) (i := 3) rfl rfl rfl (Nat.le_of_ble_eq_true rfl) w_307 d_Changes_remember_61 <|
    am_aload_n d_Changes_remember_64 rfl (i := 0) rfl <|
    am_getI (ci := 7) (i := 4) rfl rfl rfl (Nat.le_of_ble_eq_true rfl) w_308 d_Changes_remember_65 <|
    am_iload d_Changes_remember_68 rfl <|
    am_iast rfl q3 d_Changes_remember_70 <|
    am_aload_n d_Changes_remember_71 rfl (i := 0) rfl <|
    am_dupR d_Changes_remember_72 <|
    am_getI (ci := 7) (i := 4) rfl rfl rfl (Nat.le_of_ble_eq_true rfl) w_308 d_Changes_remember_73 <|
    am_iconst (v := 1) d_Changes_remember_76 (by decide) <|
    am_iadd d_Changes_remember_77 <|
    am_putI (ci := 7) (i := 4) rfl rfl rfl (Nat.le_of_ble_eq_true rfl) w_308 rfl rfl rfl d_Changes_remember_78 <|
    am_aload_n d_Changes_remember_81 rfl (i := 0) rfl <|
    am_iconst (v := 0) d_Changes_remember_82 (by decide) <|
    am_putI (ci := 7) (i := 5) rfl rfl rfl (Nat.le_of_ble_eq_true rfl) w_309 rfl rfl rfl d_Changes_remember_83 <|
    am_vret rfl d_Changes_remember_86 q
theorem t_Changes_remember_29 {d : Nat} {x1 : Int32} {x2 : Int32} {x3 : Int32} {x4 : Int32} {h : am_H} {Q : am_Q} {res : am_H} (e : f_Changes_remember_29 h = some res) (q : Q none res) : am_W (X_Changes_remember (d + 1)) 29 [some (.ref 22), some (.int x1), some (.int x2), some (.int x3), some (.int x4)] [] h Q :=
  b_Changes_remember_29 (d := (d + 1)) (q := (am_rVpi e q))
theorem t_Changes_remember_30 {d : Nat} {x1 : Int32} {x2 : Int32} {x3 : Int32} {x4 : Int32} {h : am_H} {Q : am_Q} {res : am_H} (e : f_Changes_remember_30 h x1 x2 x3 x4 = some res) (q : Q none res) : am_W (X_Changes_remember (d + 1)) 30 [some (.ref 22), some (.int x1), some (.int x2), some (.int x3), some (.int x4)] [] h Q :=
  b_Changes_remember_30 (d := (d + 1)) (q0 := (am_okv (am_gd e))) (q1 := (am_okv (am_gd (am_ga e)))) (q2 := (am_okv (am_gd (am_ga (am_ga e))))) (q3 := (am_okv (am_gd (am_ga (am_ga (am_ga e)))))) (q := (am_rVpi (am_ga (am_ga (am_ga (am_ga e)))) q))
theorem t_Changes_remember_20 {d : Nat} {x1 : Int32} {x2 : Int32} {x3 : Int32} {x4 : Int32} {h : am_H} {Q : am_Q} {res : am_H} (e : f_Changes_remember_20 h x1 x2 x3 x4 = some res) (q : Q none res) : am_W (X_Changes_remember (d + 1)) 20 [some (.ref 22), some (.int x1), some (.int x2), some (.int x3), some (.int x4)] [] h Q :=
  b_Changes_remember_20 (d := (d + 1)) (kt := fun c => (t_Changes_remember_30 (am_ift e c) q)) (kf := fun c => (t_Changes_remember_29 (am_ife e c) q))
theorem t_Changes_remember_13 {d : Nat} {x1 : Int32} {x2 : Int32} {x3 : Int32} {x4 : Int32} {h : am_H} {Q : am_Q} {res : am_H} (e : f_Changes_remember_13 h x1 x2 x3 x4 = some res) (q : Q none res) : am_W (X_Changes_remember (d + 1)) 13 [some (.ref 22), some (.int x1), some (.int x2), some (.int x3), some (.int x4)] [] h Q :=
  b_Changes_remember_13 (d := (d + 1)) (kt := fun c => (t_Changes_remember_29 (am_ift e c) q)) (kf := fun c => (t_Changes_remember_20 (am_ife e c) q))
theorem t_Changes_remember_9 {d : Nat} {x1 : Int32} {x2 : Int32} {x3 : Int32} {x4 : Int32} {h : am_H} {Q : am_Q} {res : am_H} (e : f_Changes_remember_9 h x1 x2 x3 x4 = some res) (q : Q none res) : am_W (X_Changes_remember (d + 1)) 9 [some (.ref 22), some (.int x1), some (.int x2), some (.int x3), some (.int x4)] [] h Q :=
  b_Changes_remember_9 (d := d) (k := c_Changes_dropOldest (d := d) rfl (t_Changes_remember_13 e q))
theorem t_Changes_remember_0 {d : Nat} {x1 : Int32} {x2 : Int32} {x3 : Int32} {x4 : Int32} {h : am_H} {Q : am_Q} {res : am_H} (e : f_Changes_remember h x1 x2 x3 x4 = some res) (q : Q none res) : am_W (X_Changes_remember (d + 1)) 0 [some (.ref 22), some (.int x1), some (.int x2), some (.int x3), some (.int x4)] [] h Q :=
  b_Changes_remember_0 (d := (d + 1)) (kt := fun c => (t_Changes_remember_13 (am_ift e c) q)) (kf := fun c => (t_Changes_remember_9 (am_ife e c) q))
theorem c_Changes_remember {d : Nat} {x1 : Int32} {x2 : Int32} {x3 : Int32} {x4 : Int32} {h : am_H} {Q : am_Q} {res : am_H} (e : f_Changes_remember h x1 x2 x3 x4 = some res) (q : Q none res) : m_Changes_remember (d + 1) [.ref 22, .int x1, .int x2, .int x3, .int x4] h Q :=
  e_Changes_remember (t_Changes_remember_0 e q)
theorem d_Hole_allows_0 : decode prog_5_method_6_code 0 = .ok (.iload_n 1, 1) := by decide +kernel
theorem d_Hole_allows_1 : decode prog_5_method_6_code 1 = .ok (.bipush 7, 2) := by decide +kernel
theorem d_Hole_allows_3 : decode prog_5_method_6_code 3 = .ok (.if_icmp .ne 14, 3) := by decide +kernel
theorem d_Hole_allows_6 : decode prog_5_method_6_code 6 = .ok (.iload_n 2, 1) := by decide +kernel
theorem d_Hole_allows_7 : decode prog_5_method_6_code 7 = .ok (.bipush 12, 2) := by decide +kernel
theorem d_Hole_allows_9 : decode prog_5_method_6_code 9 = .ok (.aload_n 0, 1) := by decide +kernel
theorem d_Hole_allows_10 : decode prog_5_method_6_code 10 = .ok (.getfield 40, 3) := by decide +kernel
theorem d_Hole_allows_13 : decode prog_5_method_6_code 13 = .ok (.isub, 1) := by decide +kernel
theorem d_Hole_allows_14 : decode prog_5_method_6_code 14 = .ok (.if_icmp .gt 20, 3) := by decide +kernel
theorem d_Hole_allows_17 : decode prog_5_method_6_code 17 = .ok (.iload_n 1, 1) := by decide +kernel
theorem d_Hole_allows_18 : decode prog_5_method_6_code 18 = .ok (.bipush 8, 2) := by decide +kernel
theorem d_Hole_allows_20 : decode prog_5_method_6_code 20 = .ok (.if_icmp .ne 16, 3) := by decide +kernel
theorem d_Hole_allows_23 : decode prog_5_method_6_code 23 = .ok (.iload_n 2, 1) := by decide +kernel
theorem d_Hole_allows_24 : decode prog_5_method_6_code 24 = .ok (.bipush 12, 2) := by decide +kernel
theorem d_Hole_allows_26 : decode prog_5_method_6_code 26 = .ok (.aload_n 0, 1) := by decide +kernel
theorem d_Hole_allows_27 : decode prog_5_method_6_code 27 = .ok (.getfield 37, 3) := by decide +kernel
theorem d_Hole_allows_30 : decode prog_5_method_6_code 30 = .ok (.isub, 1) := by decide +kernel
theorem d_Hole_allows_31 : decode prog_5_method_6_code 31 = .ok (.if_icmp .le 5, 3) := by decide +kernel
theorem d_Hole_allows_34 : decode prog_5_method_6_code 34 = .ok (.iconst 0, 1) := by decide +kernel
theorem d_Hole_allows_35 : decode prog_5_method_6_code 35 = .ok (.ireturn, 1) := by decide +kernel
theorem d_Hole_allows_36 : decode prog_5_method_6_code 36 = .ok (.iload_n 1, 1) := by decide +kernel
theorem d_Hole_allows_37 : decode prog_5_method_6_code 37 = .ok (.iload_n 2, 1) := by decide +kernel
theorem d_Hole_allows_38 : decode prog_5_method_6_code 38 = .ok (.invokestatic 49, 3) := by decide +kernel
theorem d_Hole_allows_41 : decode prog_5_method_6_code 41 = .ok (.ireturn, 1) := by decide +kernel
theorem b_Hole_allows_0 {d : Nat} {x1 : Int32} {x2 : Int32} {h : am_H} {Q : am_Q} (kt : ¬ x1 = 7 → am_W (X_Hole_allows d) 17 [some (.ref 1), some (.int x1), some (.int x2)] [] h Q) (kf : x1 = 7 → am_W (X_Hole_allows d) 6 [some (.ref 1), some (.int x1), some (.int x2)] [] h Q) : am_W (X_Hole_allows d) 0 [some (.ref 1), some (.int x1), some (.int x2)] [] h Q :=
  am_iload_n d_Hole_allows_0 rfl (i := 1) rfl <|
    am_bipush (v := 7) d_Hole_allows_1 (by decide) <|
    am_icmp_ne (tgt := 17) d_Hole_allows_3 (by decide) kt kf
theorem b_Hole_allows_6 {d : Nat} {x1 : Int32} {x2 : Int32} {h : am_H} {Q : am_Q} (kt : (12 - (h.1 1 9)) < x2 → am_W (X_Hole_allows d) 34 [some (.ref 1), some (.int x1), some (.int x2)] [] h Q) (kf : ¬ (12 - (h.1 1 9)) < x2 → am_W (X_Hole_allows d) 17 [some (.ref 1), some (.int x1), some (.int x2)] [] h Q) : am_W (X_Hole_allows d) 6 [some (.ref 1), some (.int x1), some (.int x2)] [] h Q :=
  am_iload_n d_Hole_allows_6 rfl (i := 2) rfl <|
    am_bipush (v := 12) d_Hole_allows_7 (by decide) <|
    am_aload_n d_Hole_allows_9 rfl (i := 0) rfl <|
    am_getI (ci := 1) (i := 9) rfl rfl rfl (Nat.le_of_ble_eq_true rfl) w_131 d_Hole_allows_10 <|
    am_isub d_Hole_allows_13 <|
    am_icmp_gt (tgt := 34) d_Hole_allows_14 (by decide) kt kf
theorem b_Hole_allows_17 {d : Nat} {x1 : Int32} {x2 : Int32} {h : am_H} {Q : am_Q} (kt : ¬ x1 = 8 → am_W (X_Hole_allows d) 36 [some (.ref 1), some (.int x1), some (.int x2)] [] h Q) (kf : x1 = 8 → am_W (X_Hole_allows d) 23 [some (.ref 1), some (.int x1), some (.int x2)] [] h Q) : am_W (X_Hole_allows d) 17 [some (.ref 1), some (.int x1), some (.int x2)] [] h Q :=
  am_iload_n d_Hole_allows_17 rfl (i := 1) rfl <|
    am_bipush (v := 8) d_Hole_allows_18 (by decide) <|
    am_icmp_ne (tgt := 36) d_Hole_allows_20 (by decide) kt kf
theorem b_Hole_allows_23 {d : Nat} {x1 : Int32} {x2 : Int32} {h : am_H} {Q : am_Q} (kt : x2 ≤ (12 - (h.1 1 8)) → am_W (X_Hole_allows d) 36 [some (.ref 1), some (.int x1), some (.int x2)] [] h Q) (kf : ¬ x2 ≤ (12 - (h.1 1 8)) → am_W (X_Hole_allows d) 34 [some (.ref 1), some (.int x1), some (.int x2)] [] h Q) : am_W (X_Hole_allows d) 23 [some (.ref 1), some (.int x1), some (.int x2)] [] h Q :=
  am_iload_n d_Hole_allows_23 rfl (i := 2) rfl <|
    am_bipush (v := 12) d_Hole_allows_24 (by decide) <|
    am_aload_n d_Hole_allows_26 rfl (i := 0) rfl <|
    am_getI (ci := 1) (i := 8) rfl rfl rfl (Nat.le_of_ble_eq_true rfl) w_130 d_Hole_allows_27 <|
    am_isub d_Hole_allows_30 <|
    am_icmp_le (tgt := 36) d_Hole_allows_31 (by decide) kt kf
theorem b_Hole_allows_34 {d : Nat} {x1 : Int32} {x2 : Int32} {h : am_H} {Q : am_Q} (q : Q (some (.int 0)) h) : am_W (X_Hole_allows d) 34 [some (.ref 1), some (.int x1), some (.int x2)] [] h Q :=
  am_iconst (v := 0) d_Hole_allows_34 (by decide) <|
    am_zret (ty := .boolean) rfl (by decide) d_Hole_allows_35 q
theorem b_Hole_allows_36 {d : Nat} {x1 : Int32} {x2 : Int32} {h : am_H} {Q : am_Q} (k : m_Hole_isWithin d [.int x1, .int x2] h (fun r hh => am_W (X_Hole_allows (d + 1)) 41 [some (.ref 1), some (.int x1), some (.int x2)] (r.toList ++ []) hh Q)) : am_W (X_Hole_allows (d + 1)) 36 [some (.ref 1), some (.int x1), some (.int x2)] [] h Q :=
  am_iload_n d_Hole_allows_36 rfl (i := 1) rfl <|
    am_iload_n d_Hole_allows_37 rfl (i := 2) rfl <|
    am_callS (vs := [.int x1, .int x2]) (st := []) rfl d_Hole_allows_38 w_397 w_398 w_84 w_399 p_Hole_isWithin (Nat.le_of_ble_eq_true rfl) (Nat.le_of_ble_eq_true rfl) rfl k
theorem b_Hole_allows_41 {d : Nat} {x1 : Int32} {x2 : Int32} {y0 : Bool} {h : am_H} {Q : am_Q} (q : Q (some (.int (am_b y0))) h) : am_W (X_Hole_allows d) 41 [some (.ref 1), some (.int x1), some (.int x2)] [.int (am_b y0)] h Q :=
  am_zret (ty := .boolean) rfl am_nb d_Hole_allows_41 q
theorem t_Hole_allows_41 {d : Nat} {x1 : Int32} {x2 : Int32} {y0 : Bool} {h : am_H} {Q : am_Q} {res : Bool} (e : f_Hole_allows_41 h y0 = some res) (q : Q (some (.int (am_b res))) h) : am_W (X_Hole_allows (d + 1)) 41 [some (.ref 1), some (.int x1), some (.int x2)] [.int (am_b y0)] h Q :=
  b_Hole_allows_41 (d := (d + 1)) (q := (am_rZp (v := y0) e q))
theorem t_Hole_allows_36 {d : Nat} {x1 : Int32} {x2 : Int32} {h : am_H} {Q : am_Q} {res : Bool} (e : f_Hole_allows_36 h x1 x2 = some res) (q : Q (some (.int (am_b res))) h) : am_W (X_Hole_allows (d + 1)) 36 [some (.ref 1), some (.int x1), some (.int x2)] [] h Q :=
  (am_bd e).elim fun p hp => b_Hole_allows_36 (d := d) (k := c_Hole_isWithin (d := d) hp.1 (t_Hole_allows_41 hp.2 q))
theorem t_Hole_allows_34 {d : Nat} {x1 : Int32} {x2 : Int32} {h : am_H} {Q : am_Q} {res : Bool} (e : f_Hole_allows_34 h = some res) (q : Q (some (.int (am_b res))) h) : am_W (X_Hole_allows (d + 1)) 34 [some (.ref 1), some (.int x1), some (.int x2)] [] h Q :=
  b_Hole_allows_34 (d := (d + 1)) (q := (am_rZp (v := false) e q))
theorem t_Hole_allows_23 {d : Nat} {x1 : Int32} {x2 : Int32} {h : am_H} {Q : am_Q} {res : Bool} (e : f_Hole_allows_23 h x1 x2 = some res) (q : Q (some (.int (am_b res))) h) : am_W (X_Hole_allows (d + 1)) 23 [some (.ref 1), some (.int x1), some (.int x2)] [] h Q :=
  b_Hole_allows_23 (d := (d + 1)) (kt := fun c => (t_Hole_allows_36 (am_ift e c) q)) (kf := fun c => (t_Hole_allows_34 (am_ife e c) q))
theorem t_Hole_allows_17 {d : Nat} {x1 : Int32} {x2 : Int32} {h : am_H} {Q : am_Q} {res : Bool} (e : f_Hole_allows_17 h x1 x2 = some res) (q : Q (some (.int (am_b res))) h) : am_W (X_Hole_allows (d + 1)) 17 [some (.ref 1), some (.int x1), some (.int x2)] [] h Q :=
  b_Hole_allows_17 (d := (d + 1)) (kt := fun c => (t_Hole_allows_36 (am_ife e c) q)) (kf := fun c => (t_Hole_allows_23 (am_ift e c) q))
theorem t_Hole_allows_6 {d : Nat} {x1 : Int32} {x2 : Int32} {h : am_H} {Q : am_Q} {res : Bool} (e : f_Hole_allows_6 h x1 x2 = some res) (q : Q (some (.int (am_b res))) h) : am_W (X_Hole_allows (d + 1)) 6 [some (.ref 1), some (.int x1), some (.int x2)] [] h Q :=
  b_Hole_allows_6 (d := (d + 1)) (kt := fun c => (t_Hole_allows_34 (am_ift e c) q)) (kf := fun c => (t_Hole_allows_17 (am_ife e c) q))
theorem t_Hole_allows_0 {d : Nat} {x1 : Int32} {x2 : Int32} {h : am_H} {Q : am_Q} {res : Bool} (e : f_Hole_allows h x1 x2 = some res) (q : Q (some (.int (am_b res))) h) : am_W (X_Hole_allows (d + 1)) 0 [some (.ref 1), some (.int x1), some (.int x2)] [] h Q :=
  b_Hole_allows_0 (d := (d + 1)) (kt := fun c => (t_Hole_allows_17 (am_ife e c) q)) (kf := fun c => (t_Hole_allows_6 (am_ift e c) q))
theorem c_Hole_allows {d : Nat} {x1 : Int32} {x2 : Int32} {h : am_H} {Q : am_Q} {res : Bool} (e : f_Hole_allows h x1 x2 = some res) (q : Q (some (.int (am_b res))) h) : m_Hole_allows (d + 1) [.ref 1, .int x1, .int x2] h Q :=
  e_Hole_allows (t_Hole_allows_0 e q)
theorem d_Hole_numberAt_0 : decode prog_5_method_7_code 0 = .ok (.iload_n 2, 1) := by decide +kernel
theorem d_Hole_numberAt_1 : decode prog_5_method_7_code 1 = .ok (.tableswitch 155 0 8 #[51, 70, 90, 110, 130, 135, 140, 145, 150], 51) := by decide +kernel
theorem d_Hole_numberAt_52 : decode prog_5_method_7_code 52 = .ok (.iload_n 1, 1) := by decide +kernel
theorem d_Hole_numberAt_53 : decode prog_5_method_7_code 53 = .ok (.invokestatic 59, 3) := by decide +kernel
theorem d_Hole_numberAt_56 : decode prog_5_method_7_code 56 = .ok (.ifCond .eq 12, 3) := by decide +kernel
theorem d_Hole_numberAt_59 : decode prog_5_method_7_code 59 = .ok (.aload_n 0, 1) := by decide +kernel
theorem d_Hole_numberAt_60 : decode prog_5_method_7_code 60 = .ok (.getfield 11, 3) := by decide +kernel
theorem d_Hole_numberAt_63 : decode prog_5_method_7_code 63 = .ok (.iload_n 1, 1) := by decide +kernel
theorem d_Hole_numberAt_64 : decode prog_5_method_7_code 64 = .ok (.iaload, 1) := by decide +kernel
theorem d_Hole_numberAt_65 : decode prog_5_method_7_code 65 = .ok (.goto 5, 3) := by decide +kernel
theorem d_Hole_numberAt_68 : decode prog_5_method_7_code 68 = .ok (.ldc 66, 2) := by decide +kernel
theorem d_Hole_numberAt_70 : decode prog_5_method_7_code 70 = .ok (.ireturn, 1) := by decide +kernel
theorem d_Hole_numberAt_71 : decode prog_5_method_7_code 71 = .ok (.aload_n 0, 1) := by decide +kernel
theorem d_Hole_numberAt_72 : decode prog_5_method_7_code 72 = .ok (.iload_n 1, 1) := by decide +kernel
theorem d_Hole_numberAt_73 : decode prog_5_method_7_code 73 = .ok (.invokevirtual 63, 3) := by decide +kernel
theorem d_Hole_numberAt_76 : decode prog_5_method_7_code 76 = .ok (.ifCond .eq 12, 3) := by decide +kernel
theorem d_Hole_numberAt_79 : decode prog_5_method_7_code 79 = .ok (.aload_n 0, 1) := by decide +kernel
theorem d_Hole_numberAt_80 : decode prog_5_method_7_code 80 = .ok (.getfield 15, 3) := by decide +kernel
theorem d_Hole_numberAt_83 : decode prog_5_method_7_code 83 = .ok (.iload_n 1, 1) := by decide +kernel
theorem d_Hole_numberAt_84 : decode prog_5_method_7_code 84 = .ok (.iaload, 1) := by decide +kernel
theorem d_Hole_numberAt_85 : decode prog_5_method_7_code 85 = .ok (.goto 5, 3) := by decide +kernel
theorem d_Hole_numberAt_88 : decode prog_5_method_7_code 88 = .ok (.ldc 66, 2) := by decide +kernel
theorem d_Hole_numberAt_90 : decode prog_5_method_7_code 90 = .ok (.ireturn, 1) := by decide +kernel
theorem d_Hole_numberAt_91 : decode prog_5_method_7_code 91 = .ok (.aload_n 0, 1) := by decide +kernel
theorem d_Hole_numberAt_92 : decode prog_5_method_7_code 92 = .ok (.iload_n 1, 1) := by decide +kernel
theorem d_Hole_numberAt_93 : decode prog_5_method_7_code 93 = .ok (.invokevirtual 63, 3) := by decide +kernel
theorem d_Hole_numberAt_96 : decode prog_5_method_7_code 96 = .ok (.ifCond .eq 12, 3) := by decide +kernel
theorem d_Hole_numberAt_99 : decode prog_5_method_7_code 99 = .ok (.aload_n 0, 1) := by decide +kernel
theorem d_Hole_numberAt_100 : decode prog_5_method_7_code 100 = .ok (.getfield 18, 3) := by decide +kernel
theorem d_Hole_numberAt_103 : decode prog_5_method_7_code 103 = .ok (.iload_n 1, 1) := by decide +kernel
theorem d_Hole_numberAt_104 : decode prog_5_method_7_code 104 = .ok (.iaload, 1) := by decide +kernel
theorem d_Hole_numberAt_105 : decode prog_5_method_7_code 105 = .ok (.goto 5, 3) := by decide +kernel
theorem d_Hole_numberAt_108 : decode prog_5_method_7_code 108 = .ok (.ldc 66, 2) := by decide +kernel
theorem d_Hole_numberAt_110 : decode prog_5_method_7_code 110 = .ok (.ireturn, 1) := by decide +kernel
theorem d_Hole_numberAt_111 : decode prog_5_method_7_code 111 = .ok (.aload_n 0, 1) := by decide +kernel
theorem d_Hole_numberAt_112 : decode prog_5_method_7_code 112 = .ok (.iload_n 1, 1) := by decide +kernel
theorem d_Hole_numberAt_113 : decode prog_5_method_7_code 113 = .ok (.invokevirtual 63, 3) := by decide +kernel
theorem d_Hole_numberAt_116 : decode prog_5_method_7_code 116 = .ok (.ifCond .eq 12, 3) := by decide +kernel
theorem d_Hole_numberAt_119 : decode prog_5_method_7_code 119 = .ok (.aload_n 0, 1) := by decide +kernel
theorem d_Hole_numberAt_120 : decode prog_5_method_7_code 120 = .ok (.getfield 21, 3) := by decide +kernel
theorem d_Hole_numberAt_123 : decode prog_5_method_7_code 123 = .ok (.iload_n 1, 1) := by decide +kernel
theorem d_Hole_numberAt_124 : decode prog_5_method_7_code 124 = .ok (.iaload, 1) := by decide +kernel
theorem d_Hole_numberAt_125 : decode prog_5_method_7_code 125 = .ok (.goto 5, 3) := by decide +kernel
theorem d_Hole_numberAt_128 : decode prog_5_method_7_code 128 = .ok (.ldc 66, 2) := by decide +kernel
theorem d_Hole_numberAt_130 : decode prog_5_method_7_code 130 = .ok (.ireturn, 1) := by decide +kernel
theorem d_Hole_numberAt_131 : decode prog_5_method_7_code 131 = .ok (.aload_n 0, 1) := by decide +kernel
theorem d_Hole_numberAt_132 : decode prog_5_method_7_code 132 = .ok (.getfield 28, 3) := by decide +kernel
theorem d_Hole_numberAt_135 : decode prog_5_method_7_code 135 = .ok (.ireturn, 1) := by decide +kernel
theorem d_Hole_numberAt_136 : decode prog_5_method_7_code 136 = .ok (.aload_n 0, 1) := by decide +kernel
theorem d_Hole_numberAt_137 : decode prog_5_method_7_code 137 = .ok (.getfield 31, 3) := by decide +kernel
theorem d_Hole_numberAt_140 : decode prog_5_method_7_code 140 = .ok (.ireturn, 1) := by decide +kernel
theorem d_Hole_numberAt_141 : decode prog_5_method_7_code 141 = .ok (.aload_n 0, 1) := by decide +kernel
theorem d_Hole_numberAt_142 : decode prog_5_method_7_code 142 = .ok (.getfield 34, 3) := by decide +kernel
theorem d_Hole_numberAt_145 : decode prog_5_method_7_code 145 = .ok (.ireturn, 1) := by decide +kernel
theorem d_Hole_numberAt_146 : decode prog_5_method_7_code 146 = .ok (.aload_n 0, 1) := by decide +kernel
theorem d_Hole_numberAt_147 : decode prog_5_method_7_code 147 = .ok (.getfield 37, 3) := by decide +kernel
theorem d_Hole_numberAt_150 : decode prog_5_method_7_code 150 = .ok (.ireturn, 1) := by decide +kernel
theorem d_Hole_numberAt_151 : decode prog_5_method_7_code 151 = .ok (.aload_n 0, 1) := by decide +kernel
theorem d_Hole_numberAt_152 : decode prog_5_method_7_code 152 = .ok (.getfield 40, 3) := by decide +kernel
theorem d_Hole_numberAt_155 : decode prog_5_method_7_code 155 = .ok (.ireturn, 1) := by decide +kernel
theorem d_Hole_numberAt_156 : decode prog_5_method_7_code 156 = .ok (.ldc 66, 2) := by decide +kernel
theorem d_Hole_numberAt_158 : decode prog_5_method_7_code 158 = .ok (.ireturn, 1) := by decide +kernel
theorem b_Hole_numberAt_0 {d : Nat} {x1 : Int32} {x2 : Int32} {h : am_H} {Q : am_Q} (k0 : x2 = 0 → am_W (X_Hole_numberAt d) 52 [some (.ref 1), some (.int x1), some (.int x2)] [] h Q) (k1 : x2 = 1 → am_W (X_Hole_numberAt d) 71 [some (.ref 1), some (.int x1), some (.int x2)] [] h Q) (k2 : x2 = 2 → am_W (X_Hole_numberAt d) 91 [some (.ref 1), some (.int x1), some (.int x2)] [] h Q) (k3 : x2 = 3 → am_W (X_Hole_numberAt d) 111 [some (.ref 1), some (.int x1), some (.int x2)] [] h Q) (k4 : x2 = 4 → am_W (X_Hole_numberAt d) 131 [some (.ref 1), some (.int x1), some (.int x2)] [] h Q) (k5 : x2 = 5 → am_W (X_Hole_numberAt d) 136 [some (.ref 1), some (.int x1), some (.int x2)] [] h Q) (k6 : x2 = 6 → am_W (X_Hole_numberAt d) 141 [some (.ref 1), some (.int x1), some (.int x2)] [] h Q) (k7 : x2 = 7 → am_W (X_Hole_numberAt d) 146 [some (.ref 1), some (.int x1), some (.int x2)] [] h Q) (k8 : x2 = 8 → am_W (X_Hole_numberAt d) 151 [some (.ref 1), some (.int x1), some (.int x2)] [] h Q) (kd : ¬ x2 = 0 → ¬ x2 = 1 → ¬ x2 = 2 → ¬ x2 = 3 → ¬ x2 = 4 → ¬ x2 = 5 → ¬ x2 = 6 → ¬ x2 = 7 → ¬ x2 = 8 → am_W (X_Hole_numberAt d) 156 [some (.ref 1), some (.int x1), some (.int x2)] [] h Q) : am_W (X_Hole_numberAt d) 0 [some (.ref 1), some (.int x1), some (.int x2)] [] h Q := by
  refine am_iload_n d_Hole_numberAt_0 rfl (i := 2) rfl ?_
  by_cases e0 : (x2 : Int32).toInt < 0 ∨ 8 < (x2 : Int32).toInt
  · exact am_tableOut (tgt := 156) d_Hole_numberAt_1 e0 (by decide) (kd (fun e => by rw [e] at e0; revert e0; decide) (fun e => by rw [e] at e0; revert e0; decide) (fun e => by rw [e] at e0; revert e0; decide) (fun e => by rw [e] at e0; revert e0; decide) (fun e => by rw [e] at e0; revert e0; decide) (fun e => by rw [e] at e0; revert e0; decide) (fun e => by rw [e] at e0; revert e0; decide) (fun e => by rw [e] at e0; revert e0; decide) (fun e => by rw [e] at e0; revert e0; decide))
  by_cases e1 : x2 = 0
  · exact am_tableIn (tgt := 52) (off := 51) d_Hole_numberAt_1 (fun e => e0 (Or.inl e)) (fun e => e0 (Or.inr e)) (by rw [e1]; decide +kernel) (by decide) (k0 e1)
  by_cases e2 : x2 = 1
  · exact am_tableIn (tgt := 71) (off := 70) d_Hole_numberAt_1 (fun e => e0 (Or.inl e)) (fun e => e0 (Or.inr e)) (by rw [e2]; decide +kernel) (by decide) (k1 e2)
  by_cases e3 : x2 = 2
  · exact am_tableIn (tgt := 91) (off := 90) d_Hole_numberAt_1 (fun e => e0 (Or.inl e)) (fun e => e0 (Or.inr e)) (by rw [e3]; decide +kernel) (by decide) (k2 e3)
  by_cases e4 : x2 = 3
  · exact am_tableIn (tgt := 111) (off := 110) d_Hole_numberAt_1 (fun e => e0 (Or.inl e)) (fun e => e0 (Or.inr e)) (by rw [e4]; decide +kernel) (by decide) (k3 e4)
  by_cases e5 : x2 = 4
  · exact am_tableIn (tgt := 131) (off := 130) d_Hole_numberAt_1 (fun e => e0 (Or.inl e)) (fun e => e0 (Or.inr e)) (by rw [e5]; decide +kernel) (by decide) (k4 e5)
  by_cases e6 : x2 = 5
  · exact am_tableIn (tgt := 136) (off := 135) d_Hole_numberAt_1 (fun e => e0 (Or.inl e)) (fun e => e0 (Or.inr e)) (by rw [e6]; decide +kernel) (by decide) (k5 e6)
  by_cases e7 : x2 = 6
  · exact am_tableIn (tgt := 141) (off := 140) d_Hole_numberAt_1 (fun e => e0 (Or.inl e)) (fun e => e0 (Or.inr e)) (by rw [e7]; decide +kernel) (by decide) (k6 e7)
  by_cases e8 : x2 = 7
  · exact am_tableIn (tgt := 146) (off := 145) d_Hole_numberAt_1 (fun e => e0 (Or.inl e)) (fun e => e0 (Or.inr e)) (by rw [e8]; decide +kernel) (by decide) (k7 e8)
  by_cases e9 : x2 = 8
  · exact am_tableIn (tgt := 151) (off := 150) d_Hole_numberAt_1 (fun e => e0 (Or.inl e)) (fun e => e0 (Or.inr e)) (by rw [e9]; decide +kernel) (by decide) (k8 e9)
  exfalso
  simp only [← Int32.toInt_inj] at e1 e2 e3 e4 e5 e6 e7 e8 e9
  simp only [Int32.reduceToInt] at e1 e2 e3 e4 e5 e6 e7 e8 e9
  omega
theorem b_Hole_numberAt_52 {d : Nat} {x1 : Int32} {x2 : Int32} {h : am_H} {Q : am_Q} (k : m_Hole_isCell d [.int x1] h (fun r hh => am_W (X_Hole_numberAt (d + 1)) 56 [some (.ref 1), some (.int x1), some (.int x2)] (r.toList ++ []) hh Q)) : am_W (X_Hole_numberAt (d + 1)) 52 [some (.ref 1), some (.int x1), some (.int x2)] [] h Q :=
  am_iload_n d_Hole_numberAt_52 rfl (i := 1) rfl <|
    am_callS (vs := [.int x1]) (st := []) rfl d_Hole_numberAt_53 w_468 w_469 w_84 w_470 p_Hole_isCell (Nat.le_of_ble_eq_true rfl) (Nat.le_of_ble_eq_true rfl) rfl k
theorem b_Hole_numberAt_56 {d : Nat} {x1 : Int32} {x2 : Int32} {y0 : Bool} {h : am_H} {Q : am_Q} (kt : (am_b y0) = 0 → am_W (X_Hole_numberAt d) 68 [some (.ref 1), some (.int x1), some (.int x2)] [] h Q) (kf : ¬ (am_b y0) = 0 → am_W (X_Hole_numberAt d) 59 [some (.ref 1), some (.int x1), some (.int x2)] [] h Q) : am_W (X_Hole_numberAt d) 56 [some (.ref 1), some (.int x1), some (.int x2)] [.int (am_b y0)] h Q :=
  am_if_eq (tgt := 68) d_Hole_numberAt_56 (by decide) kt kf
theorem b_Hole_numberAt_59 {d : Nat} {x1 : Int32} {x2 : Int32} {h : am_H} {Q : am_Q} (q0 : vp_in x1 31) (q : Q (some (.int (h.1 2 x1.toNatClampNeg))) h) : am_W (X_Hole_numberAt d) 59 [some (.ref 1), some (.int x1), some (.int x2)] [] h Q :=
  am_aload_n d_Hole_numberAt_59 rfl (i := 0) rfl <|
    am_getR (ci := 1) (i := 0) rfl rfl rfl (Nat.le_of_ble_eq_true rfl) w_122 d_Hole_numberAt_60 <|
    am_iload_n d_Hole_numberAt_63 rfl (i := 1) rfl <|
    am_iald rfl q0 d_Hole_numberAt_64 <|
    am_goto (tgt := 70) d_Hole_numberAt_65 (by decide) <|
    am_iret rfl d_Hole_numberAt_70 q
theorem b_Hole_numberAt_68 {d : Nat} {x1 : Int32} {x2 : Int32} {h : am_H} {Q : am_Q} (q : Q (some (.int (-2000000000))) h) : am_W (X_Hole_numberAt d) 68 [some (.ref 1), some (.int x1), some (.int x2)] [] h Q :=
  am_ldc (v := (-2000000000)) d_Hole_numberAt_68 w_484 <|
    am_iret rfl d_Hole_numberAt_70 q
theorem b_Hole_numberAt_71 {d : Nat} {x1 : Int32} {x2 : Int32} {h : am_H} {Q : am_Q} (k : m_Hole_hasClub d [.ref 1, .int x1] h (fun r hh => am_W (X_Hole_numberAt (d + 1)) 76 [some (.ref 1), some (.int x1), some (.int x2)] (r.toList ++ []) hh Q)) : am_W (X_Hole_numberAt (d + 1)) 71 [some (.ref 1), some (.int x1), some (.int x2)] [] h Q :=
  am_aload_n d_Hole_numberAt_71 rfl (i := 0) rfl <|
    am_iload_n d_Hole_numberAt_72 rfl (i := 1) rfl <|
    am_callV (vs := [.int x1]) (st := []) (k := 1) (ci := 1) rfl d_Hole_numberAt_73 rfl rfl w_471 w_472 w_473 w_84 w_474 p_Hole_hasClub (Nat.le_of_ble_eq_true rfl) (Nat.le_of_ble_eq_true rfl) rfl k
theorem b_Hole_numberAt_76 {d : Nat} {x1 : Int32} {x2 : Int32} {y0 : Bool} {h : am_H} {Q : am_Q} (kt : (am_b y0) = 0 → am_W (X_Hole_numberAt d) 88 [some (.ref 1), some (.int x1), some (.int x2)] [] h Q) (kf : ¬ (am_b y0) = 0 → am_W (X_Hole_numberAt d) 79 [some (.ref 1), some (.int x1), some (.int x2)] [] h Q) : am_W (X_Hole_numberAt d) 76 [some (.ref 1), some (.int x1), some (.int x2)] [.int (am_b y0)] h Q :=
  am_if_eq (tgt := 88) d_Hole_numberAt_76 (by decide) kt kf
theorem b_Hole_numberAt_79 {d : Nat} {x1 : Int32} {x2 : Int32} {h : am_H} {Q : am_Q} (q0 : vp_in x1 6) (q : Q (some (.int (h.1 3 x1.toNatClampNeg))) h) : am_W (X_Hole_numberAt d) 79 [some (.ref 1), some (.int x1), some (.int x2)] [] h Q :=
  am_aload_n d_Hole_numberAt_79 rfl (i := 0) rfl <|
    am_getR (ci := 1) (i := 1) rfl rfl rfl (Nat.le_of_ble_eq_true rfl) w_123 d_Hole_numberAt_80 <|
    am_iload_n d_Hole_numberAt_83 rfl (i := 1) rfl <|
    am_iald rfl q0 d_Hole_numberAt_84 <|
    am_goto (tgt := 90) d_Hole_numberAt_85 (by decide) <|
    am_iret rfl d_Hole_numberAt_90 q
theorem b_Hole_numberAt_88 {d : Nat} {x1 : Int32} {x2 : Int32} {h : am_H} {Q : am_Q} (q : Q (some (.int (-2000000000))) h) : am_W (X_Hole_numberAt d) 88 [some (.ref 1), some (.int x1), some (.int x2)] [] h Q :=
  am_ldc (v := (-2000000000)) d_Hole_numberAt_88 w_484 <|
    am_iret rfl d_Hole_numberAt_90 q
theorem b_Hole_numberAt_91 {d : Nat} {x1 : Int32} {x2 : Int32} {h : am_H} {Q : am_Q} (k : m_Hole_hasClub d [.ref 1, .int x1] h (fun r hh => am_W (X_Hole_numberAt (d + 1)) 96 [some (.ref 1), some (.int x1), some (.int x2)] (r.toList ++ []) hh Q)) : am_W (X_Hole_numberAt (d + 1)) 91 [some (.ref 1), some (.int x1), some (.int x2)] [] h Q :=
  am_aload_n d_Hole_numberAt_91 rfl (i := 0) rfl <|
    am_iload_n d_Hole_numberAt_92 rfl (i := 1) rfl <|
    am_callV (vs := [.int x1]) (st := []) (k := 1) (ci := 1) rfl d_Hole_numberAt_93 rfl rfl w_471 w_472 w_473 w_84 w_474 p_Hole_hasClub (Nat.le_of_ble_eq_true rfl) (Nat.le_of_ble_eq_true rfl) rfl k
theorem b_Hole_numberAt_96 {d : Nat} {x1 : Int32} {x2 : Int32} {y0 : Bool} {h : am_H} {Q : am_Q} (kt : (am_b y0) = 0 → am_W (X_Hole_numberAt d) 108 [some (.ref 1), some (.int x1), some (.int x2)] [] h Q) (kf : ¬ (am_b y0) = 0 → am_W (X_Hole_numberAt d) 99 [some (.ref 1), some (.int x1), some (.int x2)] [] h Q) : am_W (X_Hole_numberAt d) 96 [some (.ref 1), some (.int x1), some (.int x2)] [.int (am_b y0)] h Q :=
  am_if_eq (tgt := 108) d_Hole_numberAt_96 (by decide) kt kf
theorem b_Hole_numberAt_99 {d : Nat} {x1 : Int32} {x2 : Int32} {h : am_H} {Q : am_Q} (q0 : vp_in x1 6) (q : Q (some (.int (h.1 4 x1.toNatClampNeg))) h) : am_W (X_Hole_numberAt d) 99 [some (.ref 1), some (.int x1), some (.int x2)] [] h Q :=
  am_aload_n d_Hole_numberAt_99 rfl (i := 0) rfl <|
    am_getR (ci := 1) (i := 2) rfl rfl rfl (Nat.le_of_ble_eq_true rfl) w_124 d_Hole_numberAt_100 <|
    am_iload_n d_Hole_numberAt_103 rfl (i := 1) rfl <|
    am_iald rfl q0 d_Hole_numberAt_104 <|
    am_goto (tgt := 110) d_Hole_numberAt_105 (by decide) <|
    am_iret rfl d_Hole_numberAt_110 q
theorem b_Hole_numberAt_108 {d : Nat} {x1 : Int32} {x2 : Int32} {h : am_H} {Q : am_Q} (q : Q (some (.int (-2000000000))) h) : am_W (X_Hole_numberAt d) 108 [some (.ref 1), some (.int x1), some (.int x2)] [] h Q :=
  am_ldc (v := (-2000000000)) d_Hole_numberAt_108 w_484 <|
    am_iret rfl d_Hole_numberAt_110 q
theorem b_Hole_numberAt_111 {d : Nat} {x1 : Int32} {x2 : Int32} {h : am_H} {Q : am_Q} (k : m_Hole_hasClub d [.ref 1, .int x1] h (fun r hh => am_W (X_Hole_numberAt (d + 1)) 116 [some (.ref 1), some (.int x1), some (.int x2)] (r.toList ++ []) hh Q)) : am_W (X_Hole_numberAt (d + 1)) 111 [some (.ref 1), some (.int x1), some (.int x2)] [] h Q :=
  am_aload_n d_Hole_numberAt_111 rfl (i := 0) rfl <|
    am_iload_n d_Hole_numberAt_112 rfl (i := 1) rfl <|
    am_callV (vs := [.int x1]) (st := []) (k := 1) (ci := 1) rfl d_Hole_numberAt_113 rfl rfl w_471 w_472 w_473 w_84 w_474 p_Hole_hasClub (Nat.le_of_ble_eq_true rfl) (Nat.le_of_ble_eq_true rfl) rfl k
theorem b_Hole_numberAt_116 {d : Nat} {x1 : Int32} {x2 : Int32} {y0 : Bool} {h : am_H} {Q : am_Q} (kt : (am_b y0) = 0 → am_W (X_Hole_numberAt d) 128 [some (.ref 1), some (.int x1), some (.int x2)] [] h Q) (kf : ¬ (am_b y0) = 0 → am_W (X_Hole_numberAt d) 119 [some (.ref 1), some (.int x1), some (.int x2)] [] h Q) : am_W (X_Hole_numberAt d) 116 [some (.ref 1), some (.int x1), some (.int x2)] [.int (am_b y0)] h Q :=
  am_if_eq (tgt := 128) d_Hole_numberAt_116 (by decide) kt kf
theorem b_Hole_numberAt_119 {d : Nat} {x1 : Int32} {x2 : Int32} {h : am_H} {Q : am_Q} (q0 : vp_in x1 6) (q : Q (some (.int (h.1 5 x1.toNatClampNeg))) h) : am_W (X_Hole_numberAt d) 119 [some (.ref 1), some (.int x1), some (.int x2)] [] h Q :=
  am_aload_n d_Hole_numberAt_119 rfl (i := 0) rfl <|
    am_getR (ci := 1) (i := 3) rfl rfl rfl (Nat.le_of_ble_eq_true rfl) w_125 d_Hole_numberAt_120 <|
    am_iload_n d_Hole_numberAt_123 rfl (i := 1) rfl <|
    am_iald rfl q0 d_Hole_numberAt_124 <|
    am_goto (tgt := 130) d_Hole_numberAt_125 (by decide) <|
    am_iret rfl d_Hole_numberAt_130 q
theorem b_Hole_numberAt_128 {d : Nat} {x1 : Int32} {x2 : Int32} {h : am_H} {Q : am_Q} (q : Q (some (.int (-2000000000))) h) : am_W (X_Hole_numberAt d) 128 [some (.ref 1), some (.int x1), some (.int x2)] [] h Q :=
  am_ldc (v := (-2000000000)) d_Hole_numberAt_128 w_484 <|
    am_iret rfl d_Hole_numberAt_130 q
theorem b_Hole_numberAt_131 {d : Nat} {x1 : Int32} {x2 : Int32} {h : am_H} {Q : am_Q} (q : Q (some (.int (h.1 1 5))) h) : am_W (X_Hole_numberAt d) 131 [some (.ref 1), some (.int x1), some (.int x2)] [] h Q :=
  am_aload_n d_Hole_numberAt_131 rfl (i := 0) rfl <|
    am_getI (ci := 1) (i := 5) rfl rfl rfl (Nat.le_of_ble_eq_true rfl) w_127 d_Hole_numberAt_132 <|
    am_iret rfl d_Hole_numberAt_135 q
theorem b_Hole_numberAt_136 {d : Nat} {x1 : Int32} {x2 : Int32} {h : am_H} {Q : am_Q} (q : Q (some (.int (h.1 1 6))) h) : am_W (X_Hole_numberAt d) 136 [some (.ref 1), some (.int x1), some (.int x2)] [] h Q :=
  am_aload_n d_Hole_numberAt_136 rfl (i := 0) rfl <|
    am_getI (ci := 1) (i := 6) rfl rfl rfl (Nat.le_of_ble_eq_true rfl) w_128 d_Hole_numberAt_137 <|
    am_iret rfl d_Hole_numberAt_140 q
theorem b_Hole_numberAt_141 {d : Nat} {x1 : Int32} {x2 : Int32} {h : am_H} {Q : am_Q} (q : Q (some (.int (h.1 1 7))) h) : am_W (X_Hole_numberAt d) 141 [some (.ref 1), some (.int x1), some (.int x2)] [] h Q :=
  am_aload_n d_Hole_numberAt_141 rfl (i := 0) rfl <|
    am_getI (ci := 1) (i := 7) rfl rfl rfl (Nat.le_of_ble_eq_true rfl) w_129 d_Hole_numberAt_142 <|
    am_iret rfl d_Hole_numberAt_145 q
theorem b_Hole_numberAt_146 {d : Nat} {x1 : Int32} {x2 : Int32} {h : am_H} {Q : am_Q} (q : Q (some (.int (h.1 1 8))) h) : am_W (X_Hole_numberAt d) 146 [some (.ref 1), some (.int x1), some (.int x2)] [] h Q :=
  am_aload_n d_Hole_numberAt_146 rfl (i := 0) rfl <|
    am_getI (ci := 1) (i := 8) rfl rfl rfl (Nat.le_of_ble_eq_true rfl) w_130 d_Hole_numberAt_147 <|
    am_iret rfl d_Hole_numberAt_150 q
theorem b_Hole_numberAt_151 {d : Nat} {x1 : Int32} {x2 : Int32} {h : am_H} {Q : am_Q} (q : Q (some (.int (h.1 1 9))) h) : am_W (X_Hole_numberAt d) 151 [some (.ref 1), some (.int x1), some (.int x2)] [] h Q :=
  am_aload_n d_Hole_numberAt_151 rfl (i := 0) rfl <|
    am_getI (ci := 1) (i := 9) rfl rfl rfl (Nat.le_of_ble_eq_true rfl) w_131 d_Hole_numberAt_152 <|
    am_iret rfl d_Hole_numberAt_155 q
theorem b_Hole_numberAt_156 {d : Nat} {x1 : Int32} {x2 : Int32} {h : am_H} {Q : am_Q} (q : Q (some (.int (-2000000000))) h) : am_W (X_Hole_numberAt d) 156 [some (.ref 1), some (.int x1), some (.int x2)] [] h Q :=
  am_ldc (v := (-2000000000)) d_Hole_numberAt_156 w_484 <|
    am_iret rfl d_Hole_numberAt_158 q
theorem t_Hole_numberAt_68 {d : Nat} {x1 : Int32} {x2 : Int32} {h : am_H} {Q : am_Q} {res : Int32} (e : f_Hole_numberAt_68 h = some res) (q : Q (some (.int res)) h) : am_W (X_Hole_numberAt (d + 1)) 68 [some (.ref 1), some (.int x1), some (.int x2)] [] h Q :=
  b_Hole_numberAt_68 (d := (d + 1)) (q := (am_rIp (v := (-2000000000)) e q))
theorem t_Hole_numberAt_59 {d : Nat} {x1 : Int32} {x2 : Int32} {h : am_H} {Q : am_Q} {res : Int32} (e : f_Hole_numberAt_59 h x1 = some res) (q : Q (some (.int res)) h) : am_W (X_Hole_numberAt (d + 1)) 59 [some (.ref 1), some (.int x1), some (.int x2)] [] h Q :=
  b_Hole_numberAt_59 (d := (d + 1)) (q0 := (am_okv (am_gd e))) (q := (am_rIp (v := (h.1 2 x1.toNatClampNeg)) (am_ga e) q))
theorem t_Hole_numberAt_56 {d : Nat} {x1 : Int32} {x2 : Int32} {y0 : Bool} {h : am_H} {Q : am_Q} {res : Int32} (e : f_Hole_numberAt_56 h x1 y0 = some res) (q : Q (some (.int res)) h) : am_W (X_Hole_numberAt (d + 1)) 56 [some (.ref 1), some (.int x1), some (.int x2)] [.int (am_b y0)] h Q :=
  b_Hole_numberAt_56 (d := (d + 1)) (kt := fun c => (t_Hole_numberAt_68 (am_iff e (am_bz c)) q)) (kf := fun c => (t_Hole_numberAt_59 (am_ift e (am_bn c)) q))
theorem t_Hole_numberAt_52 {d : Nat} {x1 : Int32} {x2 : Int32} {h : am_H} {Q : am_Q} {res : Int32} (e : f_Hole_numberAt_52 h x1 = some res) (q : Q (some (.int res)) h) : am_W (X_Hole_numberAt (d + 1)) 52 [some (.ref 1), some (.int x1), some (.int x2)] [] h Q :=
  b_Hole_numberAt_52 (d := d) (k := c_Hole_isCell (d := d) rfl (t_Hole_numberAt_56 e q))
theorem t_Hole_numberAt_88 {d : Nat} {x1 : Int32} {x2 : Int32} {h : am_H} {Q : am_Q} {res : Int32} (e : f_Hole_numberAt_88 h = some res) (q : Q (some (.int res)) h) : am_W (X_Hole_numberAt (d + 1)) 88 [some (.ref 1), some (.int x1), some (.int x2)] [] h Q :=
  b_Hole_numberAt_88 (d := (d + 1)) (q := (am_rIp (v := (-2000000000)) e q))
theorem t_Hole_numberAt_79 {d : Nat} {x1 : Int32} {x2 : Int32} {h : am_H} {Q : am_Q} {res : Int32} (e : f_Hole_numberAt_79 h x1 = some res) (q : Q (some (.int res)) h) : am_W (X_Hole_numberAt (d + 1)) 79 [some (.ref 1), some (.int x1), some (.int x2)] [] h Q :=
  b_Hole_numberAt_79 (d := (d + 1)) (q0 := (am_okv (am_gd e))) (q := (am_rIp (v := (h.1 3 x1.toNatClampNeg)) (am_ga e) q))
theorem t_Hole_numberAt_76 {d : Nat} {x1 : Int32} {x2 : Int32} {y0 : Bool} {h : am_H} {Q : am_Q} {res : Int32} (e : f_Hole_numberAt_76 h x1 y0 = some res) (q : Q (some (.int res)) h) : am_W (X_Hole_numberAt (d + 1)) 76 [some (.ref 1), some (.int x1), some (.int x2)] [.int (am_b y0)] h Q :=
  b_Hole_numberAt_76 (d := (d + 1)) (kt := fun c => (t_Hole_numberAt_88 (am_iff e (am_bz c)) q)) (kf := fun c => (t_Hole_numberAt_79 (am_ift e (am_bn c)) q))
theorem t_Hole_numberAt_71 {d : Nat} {x1 : Int32} {x2 : Int32} {h : am_H} {Q : am_Q} {res : Int32} (e : f_Hole_numberAt_71 h x1 = some res) (q : Q (some (.int res)) h) : am_W (X_Hole_numberAt (d + 1)) 71 [some (.ref 1), some (.int x1), some (.int x2)] [] h Q :=
  b_Hole_numberAt_71 (d := d) (k := c_Hole_hasClub (d := d) rfl (t_Hole_numberAt_76 e q))
theorem t_Hole_numberAt_108 {d : Nat} {x1 : Int32} {x2 : Int32} {h : am_H} {Q : am_Q} {res : Int32} (e : f_Hole_numberAt_108 h = some res) (q : Q (some (.int res)) h) : am_W (X_Hole_numberAt (d + 1)) 108 [some (.ref 1), some (.int x1), some (.int x2)] [] h Q :=
  b_Hole_numberAt_108 (d := (d + 1)) (q := (am_rIp (v := (-2000000000)) e q))
theorem t_Hole_numberAt_99 {d : Nat} {x1 : Int32} {x2 : Int32} {h : am_H} {Q : am_Q} {res : Int32} (e : f_Hole_numberAt_99 h x1 = some res) (q : Q (some (.int res)) h) : am_W (X_Hole_numberAt (d + 1)) 99 [some (.ref 1), some (.int x1), some (.int x2)] [] h Q :=
  b_Hole_numberAt_99 (d := (d + 1)) (q0 := (am_okv (am_gd e))) (q := (am_rIp (v := (h.1 4 x1.toNatClampNeg)) (am_ga e) q))
theorem t_Hole_numberAt_96 {d : Nat} {x1 : Int32} {x2 : Int32} {y0 : Bool} {h : am_H} {Q : am_Q} {res : Int32} (e : f_Hole_numberAt_96 h x1 y0 = some res) (q : Q (some (.int res)) h) : am_W (X_Hole_numberAt (d + 1)) 96 [some (.ref 1), some (.int x1), some (.int x2)] [.int (am_b y0)] h Q :=
  b_Hole_numberAt_96 (d := (d + 1)) (kt := fun c => (t_Hole_numberAt_108 (am_iff e (am_bz c)) q)) (kf := fun c => (t_Hole_numberAt_99 (am_ift e (am_bn c)) q))
theorem t_Hole_numberAt_91 {d : Nat} {x1 : Int32} {x2 : Int32} {h : am_H} {Q : am_Q} {res : Int32} (e : f_Hole_numberAt_91 h x1 = some res) (q : Q (some (.int res)) h) : am_W (X_Hole_numberAt (d + 1)) 91 [some (.ref 1), some (.int x1), some (.int x2)] [] h Q :=
  b_Hole_numberAt_91 (d := d) (k := c_Hole_hasClub (d := d) rfl (t_Hole_numberAt_96 e q))
theorem t_Hole_numberAt_128 {d : Nat} {x1 : Int32} {x2 : Int32} {h : am_H} {Q : am_Q} {res : Int32} (e : f_Hole_numberAt_128 h = some res) (q : Q (some (.int res)) h) : am_W (X_Hole_numberAt (d + 1)) 128 [some (.ref 1), some (.int x1), some (.int x2)] [] h Q :=
  b_Hole_numberAt_128 (d := (d + 1)) (q := (am_rIp (v := (-2000000000)) e q))
theorem t_Hole_numberAt_119 {d : Nat} {x1 : Int32} {x2 : Int32} {h : am_H} {Q : am_Q} {res : Int32} (e : f_Hole_numberAt_119 h x1 = some res) (q : Q (some (.int res)) h) : am_W (X_Hole_numberAt (d + 1)) 119 [some (.ref 1), some (.int x1), some (.int x2)] [] h Q :=
  b_Hole_numberAt_119 (d := (d + 1)) (q0 := (am_okv (am_gd e))) (q := (am_rIp (v := (h.1 5 x1.toNatClampNeg)) (am_ga e) q))
theorem t_Hole_numberAt_116 {d : Nat} {x1 : Int32} {x2 : Int32} {y0 : Bool} {h : am_H} {Q : am_Q} {res : Int32} (e : f_Hole_numberAt_116 h x1 y0 = some res) (q : Q (some (.int res)) h) : am_W (X_Hole_numberAt (d + 1)) 116 [some (.ref 1), some (.int x1), some (.int x2)] [.int (am_b y0)] h Q :=
  b_Hole_numberAt_116 (d := (d + 1)) (kt := fun c => (t_Hole_numberAt_128 (am_iff e (am_bz c)) q)) (kf := fun c => (t_Hole_numberAt_119 (am_ift e (am_bn c)) q))
theorem t_Hole_numberAt_111 {d : Nat} {x1 : Int32} {x2 : Int32} {h : am_H} {Q : am_Q} {res : Int32} (e : f_Hole_numberAt_111 h x1 = some res) (q : Q (some (.int res)) h) : am_W (X_Hole_numberAt (d + 1)) 111 [some (.ref 1), some (.int x1), some (.int x2)] [] h Q :=
  b_Hole_numberAt_111 (d := d) (k := c_Hole_hasClub (d := d) rfl (t_Hole_numberAt_116 e q))
theorem t_Hole_numberAt_131 {d : Nat} {x1 : Int32} {x2 : Int32} {h : am_H} {Q : am_Q} {res : Int32} (e : f_Hole_numberAt_131 h = some res) (q : Q (some (.int res)) h) : am_W (X_Hole_numberAt (d + 1)) 131 [some (.ref 1), some (.int x1), some (.int x2)] [] h Q :=
  b_Hole_numberAt_131 (d := (d + 1)) (q := (am_rIp (v := (h.1 1 5)) e q))
theorem t_Hole_numberAt_136 {d : Nat} {x1 : Int32} {x2 : Int32} {h : am_H} {Q : am_Q} {res : Int32} (e : f_Hole_numberAt_136 h = some res) (q : Q (some (.int res)) h) : am_W (X_Hole_numberAt (d + 1)) 136 [some (.ref 1), some (.int x1), some (.int x2)] [] h Q :=
  b_Hole_numberAt_136 (d := (d + 1)) (q := (am_rIp (v := (h.1 1 6)) e q))
theorem t_Hole_numberAt_141 {d : Nat} {x1 : Int32} {x2 : Int32} {h : am_H} {Q : am_Q} {res : Int32} (e : f_Hole_numberAt_141 h = some res) (q : Q (some (.int res)) h) : am_W (X_Hole_numberAt (d + 1)) 141 [some (.ref 1), some (.int x1), some (.int x2)] [] h Q :=
  b_Hole_numberAt_141 (d := (d + 1)) (q := (am_rIp (v := (h.1 1 7)) e q))
theorem t_Hole_numberAt_146 {d : Nat} {x1 : Int32} {x2 : Int32} {h : am_H} {Q : am_Q} {res : Int32} (e : f_Hole_numberAt_146 h = some res) (q : Q (some (.int res)) h) : am_W (X_Hole_numberAt (d + 1)) 146 [some (.ref 1), some (.int x1), some (.int x2)] [] h Q :=
  b_Hole_numberAt_146 (d := (d + 1)) (q := (am_rIp (v := (h.1 1 8)) e q))
theorem t_Hole_numberAt_151 {d : Nat} {x1 : Int32} {x2 : Int32} {h : am_H} {Q : am_Q} {res : Int32} (e : f_Hole_numberAt_151 h = some res) (q : Q (some (.int res)) h) : am_W (X_Hole_numberAt (d + 1)) 151 [some (.ref 1), some (.int x1), some (.int x2)] [] h Q :=
  b_Hole_numberAt_151 (d := (d + 1)) (q := (am_rIp (v := (h.1 1 9)) e q))
theorem t_Hole_numberAt_156 {d : Nat} {x1 : Int32} {x2 : Int32} {h : am_H} {Q : am_Q} {res : Int32} (e : f_Hole_numberAt_156 h = some res) (q : Q (some (.int res)) h) : am_W (X_Hole_numberAt (d + 1)) 156 [some (.ref 1), some (.int x1), some (.int x2)] [] h Q :=
  b_Hole_numberAt_156 (d := (d + 1)) (q := (am_rIp (v := (-2000000000)) e q))
theorem t_Hole_numberAt_0 {d : Nat} {x1 : Int32} {x2 : Int32} {h : am_H} {Q : am_Q} {res : Int32} (e : f_Hole_numberAt h x1 x2 = some res) (q : Q (some (.int res)) h) : am_W (X_Hole_numberAt (d + 1)) 0 [some (.ref 1), some (.int x1), some (.int x2)] [] h Q :=
  b_Hole_numberAt_0 (d := (d + 1)) (k0 := fun c => (t_Hole_numberAt_52 (am_ift e c) q)) (k1 := fun c => (t_Hole_numberAt_71 (am_ift (am_ife e (fun z => absurd (c.symm.trans z) (by decide))) c) q)) (k2 := fun c => (t_Hole_numberAt_91 (am_ift (am_ife (am_ife e (fun z => absurd (c.symm.trans z) (by decide))) (fun z => absurd (c.symm.trans z) (by decide))) c) q)) (k3 := fun c => (t_Hole_numberAt_111 (am_ift (am_ife (am_ife (am_ife e (fun z => absurd (c.symm.trans z) (by decide))) (fun z => absurd (c.symm.trans z) (by decide))) (fun z => absurd (c.symm.trans z) (by decide))) c) q)) (k4 := fun c => (t_Hole_numberAt_131 (am_ift (am_ife (am_ife (am_ife (am_ife e (fun z => absurd (c.symm.trans z) (by decide))) (fun z => absurd (c.symm.trans z) (by decide))) (fun z => absurd (c.symm.trans z) (by decide))) (fun z => absurd (c.symm.trans z) (by decide))) c) q)) (k5 := fun c => (t_Hole_numberAt_136 (am_ift (am_ife (am_ife (am_ife (am_ife (am_ife e (fun z => absurd (c.symm.trans z) (by decide))) (fun z => absurd (c.symm.trans z) (by decide))) (fun z => absurd (c.symm.trans z) (by decide))) (fun z => absurd (c.symm.trans z) (by decide))) (fun z => absurd (c.symm.trans z) (by decide))) c) q)) (k6 := fun c => (t_Hole_numberAt_141 (am_ift (am_ife (am_ife (am_ife (am_ife (am_ife (am_ife e (fun z => absurd (c.symm.trans z) (by decide))) (fun z => absurd (c.symm.trans z) (by decide))) (fun z => absurd (c.symm.trans z) (by decide))) (fun z => absurd (c.symm.trans z) (by decide))) (fun z => absurd (c.symm.trans z) (by decide))) (fun z => absurd (c.symm.trans z) (by decide))) c) q)) (k7 := fun c => (t_Hole_numberAt_146 (am_ift (am_ife (am_ife (am_ife (am_ife (am_ife (am_ife (am_ife e (fun z => absurd (c.symm.trans z) (by decide))) (fun z => absurd (c.symm.trans z) (by decide))) (fun z => absurd (c.symm.trans z) (by decide))) (fun z => absurd (c.symm.trans z) (by decide))) (fun z => absurd (c.symm.trans z) (by decide))) (fun z => absurd (c.symm.trans z) (by decide))) (fun z => absurd (c.symm.trans z) (by decide))) c) q)) (k8 := fun c => (t_Hole_numberAt_151 (am_ift (am_ife (am_ife (am_ife (am_ife (am_ife (am_ife (am_ife (am_ife e (fun z => absurd (c.symm.trans z) (by decide))) (fun z => absurd (c.symm.trans z) (by decide))) (fun z => absurd (c.symm.trans z) (by decide))) (fun z => absurd (c.symm.trans z) (by decide))) (fun z => absurd (c.symm.trans z) (by decide))) (fun z => absurd (c.symm.trans z) (by decide))) (fun z => absurd (c.symm.trans z) (by decide))) (fun z => absurd (c.symm.trans z) (by decide))) c) q)) (kd := fun c0 c1 c2 c3 c4 c5 c6 c7 c8 => (t_Hole_numberAt_156 (am_ife (am_ife (am_ife (am_ife (am_ife (am_ife (am_ife (am_ife (am_ife e c0) c1) c2) c3) c4) c5) c6) c7) c8) q))
theorem c_Hole_numberAt {d : Nat} {x1 : Int32} {x2 : Int32} {h : am_H} {Q : am_Q} {res : Int32} (e : f_Hole_numberAt h x1 x2 = some res) (q : Q (some (.int res)) h) : m_Hole_numberAt (d + 1) [.ref 1, .int x1, .int x2] h Q :=
  e_Hole_numberAt (t_Hole_numberAt_0 e q)
