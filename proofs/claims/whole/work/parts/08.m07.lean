theorem d_Words_addWord_0 : decode prog_10_method_7_code 0 = .ok (.aload_n 0, 1) := by decide +kernel
theorem d_Words_addWord_1 : decode prog_10_method_7_code 1 = .ok (.getfield 18, 3) := by decide +kernel
theorem d_Words_addWord_4 : decode prog_10_method_7_code 4 = .ok (.ifCond .lt 12, 3) := by decide +kernel
theorem d_Words_addWord_7 : decode prog_10_method_7_code 7 = .ok (.aload_n 0, 1) := by decide +kernel
theorem d_Words_addWord_8 : decode prog_10_method_7_code 8 = .ok (.getfield 18, 3) := by decide +kernel
theorem d_Words_addWord_11 : decode prog_10_method_7_code 11 = .ok (.bipush 50, 2) := by decide +kernel
theorem d_Words_addWord_13 : decode prog_10_method_7_code 13 = .ok (.if_icmp .lt 6, 3) := by decide +kernel
theorem d_Words_addWord_16 : decode prog_10_method_7_code 16 = .ok (.bipush (-3), 2) := by decide +kernel
theorem d_Words_addWord_18 : decode prog_10_method_7_code 18 = .ok (.ireturn, 1) := by decide +kernel
theorem d_Words_addWord_19 : decode prog_10_method_7_code 19 = .ok (.aload_n 0, 1) := by decide +kernel
theorem d_Words_addWord_20 : decode prog_10_method_7_code 20 = .ok (.getfield 11, 3) := by decide +kernel
theorem d_Words_addWord_23 : decode prog_10_method_7_code 23 = .ok (.aload_n 0, 1) := by decide +kernel
theorem d_Words_addWord_24 : decode prog_10_method_7_code 24 = .ok (.getfield 18, 3) := by decide +kernel
theorem d_Words_addWord_27 : decode prog_10_method_7_code 27 = .ok (.iload_n 1, 1) := by decide +kernel
theorem d_Words_addWord_28 : decode prog_10_method_7_code 28 = .ok (.iastore, 1) := by decide +kernel
theorem d_Words_addWord_29 : decode prog_10_method_7_code 29 = .ok (.aload_n 0, 1) := by decide +kernel
theorem d_Words_addWord_30 : decode prog_10_method_7_code 30 = .ok (.dup, 1) := by decide +kernel
theorem d_Words_addWord_31 : decode prog_10_method_7_code 31 = .ok (.getfield 18, 3) := by decide +kernel
theorem d_Words_addWord_34 : decode prog_10_method_7_code 34 = .ok (.iconst 1, 1) := by decide +kernel
theorem d_Words_addWord_35 : decode prog_10_method_7_code 35 = .ok (.iadd, 1) := by decide +kernel
theorem d_Words_addWord_36 : decode prog_10_method_7_code 36 = .ok (.putfield 18, 3) := by decide +kernel
theorem d_Words_addWord_39 : decode prog_10_method_7_code 39 = .ok (.aload_n 0, 1) := by decide +kernel
theorem d_Words_addWord_40 : decode prog_10_method_7_code 40 = .ok (.getfield 18, 3) := by decide +kernel
theorem d_Words_addWord_43 : decode prog_10_method_7_code 43 = .ok (.iconst 1, 1) := by decide +kernel
theorem d_Words_addWord_44 : decode prog_10_method_7_code 44 = .ok (.isub, 1) := by decide +kernel
theorem d_Words_addWord_45 : decode prog_10_method_7_code 45 = .ok (.ireturn, 1) := by decide +kernel
theorem b_Words_addWord_0 {d : Nat} {x1 : Int32} {h : am_H} {Q : am_Q} (kt : (h.1 27 2) < 0 → am_W (X_Words_addWord d) 16 [some (.ref 27), some (.int x1)] [] h Q) (kf : ¬ (h.1 27 2) < 0 → am_W (X_Words_addWord d) 7 [some (.ref 27), some (.int x1)] [] h Q) : am_W (X_Words_addWord d) 0 [some (.ref 27), some (.int x1)] [] h Q :=
  am_aload_n d_Words_addWord_0 rfl (i := 0) rfl <|
    am_getI (ci := 8) (i := 2) rfl rfl rfl (Nat.le_of_ble_eq_true rfl) w_331 d_Words_addWord_1 <|
    am_if_lt (tgt := 16) d_Words_addWord_4 (by decide) kt kf
theorem b_Words_addWord_7 {d : Nat} {x1 : Int32} {h : am_H} {Q : am_Q} (kt : (h.1 27 2) < 50 → am_W (X_Words_addWord d) 19 [some (.ref 27), some (.int x1)] [] h Q) (kf : ¬ (h.1 27 2) < 50 → am_W (X_Words_addWord d) 16 [some (.ref 27), some (.int x1)] [] h Q) : am_W (X_Words_addWord d) 7 [some (.ref 27), some (.int x1)] [] h Q :=
  am_aload_n d_Words_addWord_7 rfl (i := 0) rfl <|
    am_getI (ci := 8) (i := 2) rfl rfl rfl (Nat.le_of_ble_eq_true rfl) w_331 d_Words_addWord_8 <|
    am_bipush (v := 50) d_Words_addWord_11 (by decide) <|
    am_icmp_lt (tgt := 19) d_Words_addWord_13 (by decide) kt kf
theorem b_Words_addWord_16 {d : Nat} {x1 : Int32} {h : am_H} {Q : am_Q} (q : Q (some (.int (-3))) h) : am_W (X_Words_addWord d) 16 [some (.ref 27), some (.int x1)] [] h Q :=
  am_bipush (v := (-3)) d_Words_addWord_16 (by decide) <|
    am_iret rfl d_Words_addWord_18 q
theorem b_Words_addWord_19 {d : Nat} {x1 : Int32} {h : am_H} {Q : am_Q} (q0 : vp_in (h.1 27 2) 50) (q : Q (some (.int (((am_pI (am_pI h 28 (h.1 27 2).toNatClampNeg x1) 27 2 (((am_pI h 28 (h.1 27 2).toNatClampNeg x1).1 27 2) + 1)).1 27 2) - 1))) (am_pI (am_pI h 28 (h.1 27 2).toNatClampNeg x1) 27 2 (((am_pI h 28 (h.1 27 2).toNatClampNeg x1).1 27 2) + 1))) : am_W (X_Words_addWord d) 19 [some (.ref 27), some (.int x1)] [] h Q :=
  am_aload_n d_Words_addWord_19 rfl (i := 0) rfl <|
    am_getR (ci := 8) (i := 0) rfl rfl rfl (Nat.le_of_ble_eq_true rfl) w_329 d_Words_addWord_20 <|
    am_aload_n d_Words_addWord_23 rfl (i := 0) rfl <|
    am_getI (ci := 8) (i := 2) rfl rfl rfl (Nat.le_of_ble_eq_true rfl) w_331 d_Words_addWord_24 <|
    am_iload_n d_Words_addWord_27 rfl (i := 1) rfl <|
    am_iast rfl q0 d_Words_addWord_28 <|
    am_aload_n d_Words_addWord_29 rfl (i := 0) rfl <|
    am_dupR d_Words_addWord_30 <|
    am_getI (ci := 8) (i := 2) rfl rfl rfl (Nat.le_of_ble_eq_true rfl) w_331 d_Words_addWord_31 <|
    am_iconst (v := 1) d_Words_addWord_34 (by decide) <|
    am_iadd d_Words_addWord_35 <|
    am_putI (ci := 8) (i := 2) rfl rfl rfl (Nat.le_of_ble_eq_true rfl) w_331 rfl rfl rfl d_Words_addWord_36 <|
    am_aload_n d_Words_addWord_39 rfl (i := 0) rfl <|
    am_getI (ci := 8) (i := 2) rfl rfl rfl (Nat.le_of_ble_eq_true rfl) w_331 d_Words_addWord_40 <|
    am_iconst (v := 1) d_Words_addWord_43 (by decide) <|
    am_isub d_Words_addWord_44 <|
    am_iret rfl d_Words_addWord_45 q
theorem t_Words_addWord_16 {d : Nat} {x1 : Int32} {h : am_H} {Q : am_Q} {res : Int32 × am_H} (e : f_Words_addWord_16 h = some res) (q : Q (some (.int res.1)) res.2) : am_W (X_Words_addWord d) 16 [some (.ref 27), some (.int x1)] [] h Q :=
  b_Words_addWord_16 (d := d) (q := (am_rIpi (v := (-3)) e q))
theorem t_Words_addWord_19 {d : Nat} {x1 : Int32} {h : am_H} {Q : am_Q} {res : Int32 × am_H} (e : f_Words_addWord_19 h x1 = some res) (q : Q (some (.int res.1)) res.2) : am_W (X_Words_addWord d) 19 [some (.ref 27), some (.int x1)] [] h Q :=
  b_Words_addWord_19 (d := d) (q0 := (am_okv (am_gd e))) (q := (am_rIpi (v := (((am_pI (am_pI h 28 (h.1 27 2).toNatClampNeg x1) 27 2 (((am_pI h 28 (h.1 27 2).toNatClampNeg x1).1 27 2) + 1)).1 27 2) - 1)) (am_ga e) q))
theorem t_Words_addWord_7 {d : Nat} {x1 : Int32} {h : am_H} {Q : am_Q} {res : Int32 × am_H} (e : f_Words_addWord_7 h x1 = some res) (q : Q (some (.int res.1)) res.2) : am_W (X_Words_addWord d) 7 [some (.ref 27), some (.int x1)] [] h Q :=
  b_Words_addWord_7 (d := d) (kt := fun c => (t_Words_addWord_19 (am_ift e c) q)) (kf := fun c => (t_Words_addWord_16 (am_ife e c) q))
theorem t_Words_addWord_0 {d : Nat} {x1 : Int32} {h : am_H} {Q : am_Q} {res : Int32 × am_H} (e : f_Words_addWord h x1 = some res) (q : Q (some (.int res.1)) res.2) : am_W (X_Words_addWord d) 0 [some (.ref 27), some (.int x1)] [] h Q :=
  b_Words_addWord_0 (d := d) (kt := fun c => (t_Words_addWord_16 (am_ift e c) q)) (kf := fun c => (t_Words_addWord_7 (am_ife e c) q))
theorem c_Words_addWord {d : Nat} {x1 : Int32} {h : am_H} {Q : am_Q} {res : Int32 × am_H} (e : f_Words_addWord h x1 = some res) (q : Q (some (.int res.1)) res.2) : m_Words_addWord d [.ref 27, .int x1] h Q :=
  e_Words_addWord (t_Words_addWord_0 e q)
theorem d_Words_isFull_0 : decode prog_10_method_4_code 0 = .ok (.aload_n 0, 1) := by decide +kernel
theorem d_Words_isFull_1 : decode prog_10_method_4_code 1 = .ok (.getfield 18, 3) := by decide +kernel
theorem d_Words_isFull_4 : decode prog_10_method_4_code 4 = .ok (.bipush 50, 2) := by decide +kernel
theorem d_Words_isFull_6 : decode prog_10_method_4_code 6 = .ok (.if_icmp .lt 7, 3) := by decide +kernel
theorem d_Words_isFull_9 : decode prog_10_method_4_code 9 = .ok (.iconst 1, 1) := by decide +kernel
theorem d_Words_isFull_10 : decode prog_10_method_4_code 10 = .ok (.goto 4, 3) := by decide +kernel
theorem d_Words_isFull_13 : decode prog_10_method_4_code 13 = .ok (.iconst 0, 1) := by decide +kernel
theorem d_Words_isFull_14 : decode prog_10_method_4_code 14 = .ok (.ireturn, 1) := by decide +kernel
theorem b_Words_isFull_0 {d : Nat} {h : am_H} {Q : am_Q} (kt : (h.1 27 2) < 50 → am_W (X_Words_isFull d) 13 [some (.ref 27)] [] h Q) (kf : ¬ (h.1 27 2) < 50 → am_W (X_Words_isFull d) 9 [some (.ref 27)] [] h Q) : am_W (X_Words_isFull d) 0 [some (.ref 27)] [] h Q :=
  am_aload_n d_Words_isFull_0 rfl (i := 0) rfl <|
    am_getI (ci := 8) (i := 2) rfl rfl rfl (Nat.le_of_ble_eq_true rfl) w_331 d_Words_isFull_1 <|
    am_bipush (v := 50) d_Words_isFull_4 (by decide) <|
    am_icmp_lt (tgt := 13) d_Words_isFull_6 (by decide) kt kf
theorem b_Words_isFull_9 {d : Nat} {h : am_H} {Q : am_Q} (q : Q (some (.int 1)) h) : am_W (X_Words_isFull d) 9 [some (.ref 27)] [] h Q :=
  am_iconst (v := 1) d_Words_isFull_9 (by decide) <|
    am_goto (tgt := 14) d_Words_isFull_10 (by decide) <|
    am_zret (ty := .boolean) rfl (by decide) d_Words_isFull_14 q
theorem b_Words_isFull_13 {d : Nat} {h : am_H} {Q : am_Q} (q : Q (some (.int 0)) h) : am_W (X_Words_isFull d) 13 [some (.ref 27)] [] h Q :=
  am_iconst (v := 0) d_Words_isFull_13 (by decide) <|
    am_zret (ty := .boolean) rfl (by decide) d_Words_isFull_14 q
theorem t_Words_isFull_13 {d : Nat} {h : am_H} {Q : am_Q} {res : Bool} (e : f_Words_isFull_13 h = res) (q : Q (some (.int (am_b res))) h) : am_W (X_Words_isFull d) 13 [some (.ref 27)] [] h Q :=
  b_Words_isFull_13 (d := d) (q := (am_rZt (v := false) e q))
theorem t_Words_isFull_9 {d : Nat} {h : am_H} {Q : am_Q} {res : Bool} (e : f_Words_isFull_9 h = res) (q : Q (some (.int (am_b res))) h) : am_W (X_Words_isFull d) 9 [some (.ref 27)] [] h Q :=
  b_Words_isFull_9 (d := d) (q := (am_rZt (v := true) e q))
theorem t_Words_isFull_0 {d : Nat} {h : am_H} {Q : am_Q} {res : Bool} (e : f_Words_isFull h = res) (q : Q (some (.int (am_b res))) h) : am_W (X_Words_isFull d) 0 [some (.ref 27)] [] h Q :=
  b_Words_isFull_0 (d := d) (kt := fun c => (t_Words_isFull_13 (am_ift e c) q)) (kf := fun c => (t_Words_isFull_9 (am_ife e c) q))
theorem c_Words_isFull {d : Nat} {h : am_H} {Q : am_Q} {res : Bool} (e : f_Words_isFull h = res) (q : Q (some (.int (am_b res))) h) : m_Words_isFull d [.ref 27] h Q :=
  e_Words_isFull (t_Words_isFull_0 e q)
theorem d_Words_isKind_0 : decode prog_10_method_2_code 0 = .ok (.iload_n 0, 1) := by decide +kernel
theorem d_Words_isKind_1 : decode prog_10_method_2_code 1 = .ok (.ifCond .lt 15, 3) := by decide +kernel
theorem d_Words_isKind_4 : decode prog_10_method_2_code 4 = .ok (.iload_n 0, 1) := by decide +kernel
theorem d_Words_isKind_5 : decode prog_10_method_2_code 5 = .ok (.getstatic 25, 3) := by decide +kernel
theorem d_Words_isKind_8 : decode prog_10_method_2_code 8 = .ok (.arraylength, 1) := by decide +kernel
theorem d_Words_isKind_9 : decode prog_10_method_2_code 9 = .ok (.if_icmp .ge 7, 3) := by decide +kernel
theorem d_Words_isKind_12 : decode prog_10_method_2_code 12 = .ok (.iconst 1, 1) := by decide +kernel
theorem d_Words_isKind_13 : decode prog_10_method_2_code 13 = .ok (.goto 4, 3) := by decide +kernel
theorem d_Words_isKind_16 : decode prog_10_method_2_code 16 = .ok (.iconst 0, 1) := by decide +kernel
theorem d_Words_isKind_17 : decode prog_10_method_2_code 17 = .ok (.ireturn, 1) := by decide +kernel
theorem b_Words_isKind_0 {d : Nat} {x0 : Int32} {h : am_H} {Q : am_Q} (kt : x0 < 0 → am_W (X_Words_isKind d) 16 [some (.int x0)] [] h Q) (kf : ¬ x0 < 0 → am_W (X_Words_isKind d) 4 [some (.int x0)] [] h Q) : am_W (X_Words_isKind d) 0 [some (.int x0)] [] h Q :=
  am_iload_n d_Words_isKind_0 rfl (i := 0) rfl <|
    am_if_lt (tgt := 16) d_Words_isKind_1 (by decide) kt kf
theorem b_Words_isKind_4 {d : Nat} {x0 : Int32} {h : am_H} {Q : am_Q} (kt : 8 ≤ x0 → am_W (X_Words_isKind d) 16 [some (.int x0)] [] h Q) (kf : ¬ 8 ≤ x0 → am_W (X_Words_isKind d) 12 [some (.int x0)] [] h Q) : am_W (X_Words_isKind d) 4 [some (.int x0)] [] h Q :=
  am_iload_n d_Words_isKind_4 rfl (i := 0) rfl <|
    am_gets tb_ABOVE w_1150 d_Words_isKind_5 <|
    am_tlen (v := 8) tb_ABOVE (by decide) d_Words_isKind_8 <|
    am_icmp_ge (tgt := 16) d_Words_isKind_9 (by decide) kt kf
theorem b_Words_isKind_12 {d : Nat} {x0 : Int32} {h : am_H} {Q : am_Q} (q : Q (some (.int 1)) h) : am_W (X_Words_isKind d) 12 [some (.int x0)] [] h Q :=
  am_iconst (v := 1) d_Words_isKind_12 (by decide) <|
    am_goto (tgt := 17) d_Words_isKind_13 (by decide) <|
    am_zret (ty := .boolean) rfl (by decide) d_Words_isKind_17 q
theorem b_Words_isKind_16 {d : Nat} {x0 : Int32} {h : am_H} {Q : am_Q} (q : Q (some (.int 0)) h) : am_W (X_Words_isKind d) 16 [some (.int x0)] [] h Q :=
  am_iconst (v := 0) d_Words_isKind_16 (by decide) <|
    am_zret (ty := .boolean) rfl (by decide) d_Words_isKind_17 q
theorem t_Words_isKind_16 {d : Nat} {x0 : Int32} {h : am_H} {Q : am_Q} {res : Bool} (e : f_Words_isKind_16 = res) (q : Q (some (.int (am_b res))) h) : am_W (X_Words_isKind d) 16 [some (.int x0)] [] h Q :=
  b_Words_isKind_16 (d := d) (q := (am_rZt (v := false) e q))
theorem t_Words_isKind_12 {d : Nat} {x0 : Int32} {h : am_H} {Q : am_Q} {res : Bool} (e : f_Words_isKind_12 = res) (q : Q (some (.int (am_b res))) h) : am_W (X_Words_isKind d) 12 [some (.int x0)] [] h Q :=
  b_Words_isKind_12 (d := d) (q := (am_rZt (v := true) e q))
theorem t_Words_isKind_4 {d : Nat} {x0 : Int32} {h : am_H} {Q : am_Q} {res : Bool} (e : f_Words_isKind_4 x0 = res) (q : Q (some (.int (am_b res))) h) : am_W (X_Words_isKind d) 4 [some (.int x0)] [] h Q :=
  b_Words_isKind_4 (d := d) (kt := fun c => (t_Words_isKind_16 (am_ift e c) q)) (kf := fun c => (t_Words_isKind_12 (am_ife e c) q))
theorem t_Words_isKind_0 {d : Nat} {x0 : Int32} {h : am_H} {Q : am_Q} {res : Bool} (e : f_Words_isKind x0 = res) (q : Q (some (.int (am_b res))) h) : am_W (X_Words_isKind d) 0 [some (.int x0)] [] h Q :=
  b_Words_isKind_0 (d := d) (kt := fun c => (t_Words_isKind_16 (am_ift e c) q)) (kf := fun c => (t_Words_isKind_4 (am_ife e c) q))
theorem c_Words_isKind {d : Nat} {x0 : Int32} {h : am_H} {Q : am_Q} {res : Bool} (e : f_Words_isKind x0 = res) (q : Q (some (.int (am_b res))) h) : m_Words_isKind d [.int x0] h Q :=
  e_Words_isKind (t_Words_isKind_0 e q)
theorem d_Club_body_0 : decode prog_1_method_32_code 0 = .ok (.iload_n 1, 1) := by decide +kernel
theorem d_Club_body_1 : decode prog_1_method_32_code 1 = .ok (.invokestatic 314, 3) := by decide +kernel
theorem d_Club_body_4 : decode prog_1_method_32_code 4 = .ok (.ifCond .ne 5, 3) := by decide +kernel
theorem d_Club_body_7 : decode prog_1_method_32_code 7 = .ok (.iconst (-1), 1) := by decide +kernel
theorem d_Club_body_8 : decode prog_1_method_32_code 8 = .ok (.ireturn, 1) := by decide +kernel
theorem d_Club_body_9 : decode prog_1_method_32_code 9 = .ok (.aload_n 0, 1) := by decide +kernel
theorem d_Club_body_10 : decode prog_1_method_32_code 10 = .ok (.getfield 69, 3) := by decide +kernel
theorem d_Club_body_13 : decode prog_1_method_32_code 13 = .ok (.invokevirtual 317, 3) := by decide +kernel
theorem d_Club_body_16 : decode prog_1_method_32_code 16 = .ok (.ifCond .eq 8, 3) := by decide +kernel
theorem d_Club_body_19 : decode prog_1_method_32_code 19 = .ok (.bipush (-3), 2) := by decide +kernel
theorem d_Club_body_21 : decode prog_1_method_32_code 21 = .ok (.goto 11, 3) := by decide +kernel
theorem d_Club_body_24 : decode prog_1_method_32_code 24 = .ok (.aload_n 0, 1) := by decide +kernel
theorem d_Club_body_25 : decode prog_1_method_32_code 25 = .ok (.getfield 69, 3) := by decide +kernel
theorem d_Club_body_28 : decode prog_1_method_32_code 28 = .ok (.iload_n 1, 1) := by decide +kernel
theorem d_Club_body_29 : decode prog_1_method_32_code 29 = .ok (.invokevirtual 318, 3) := by decide +kernel
theorem d_Club_body_32 : decode prog_1_method_32_code 32 = .ok (.ireturn, 1) := by decide +kernel
theorem b_Club_body_0 {d : Nat} {x1 : Int32} {h : am_H} {Q : am_Q} (k : m_Words_isKind d [.int x1] h (fun r hh => am_W (X_Club_body (d + 1)) 4 [some (.ref 0), some (.int x1)] (r.toList ++ []) hh Q)) : am_W (X_Club_body (d + 1)) 0 [some (.ref 0), some (.int x1)] [] h Q :=
  am_iload_n d_Club_body_0 rfl (i := 1) rfl <|
    am_callS (vs := [.int x1]) (st := []) rfl d_Club_body_1 w_1147 w_1148 w_92 w_1149 p_Words_isKind (Nat.le_of_ble_eq_true rfl) (Nat.le_of_ble_eq_true rfl) rfl k
theorem b_Club_body_4 {d : Nat} {x1 : Int32} {y0 : Bool} {h : am_H} {Q : am_Q} (kt : ¬ (am_b y0) = 0 → am_W (X_Club_body d) 9 [some (.ref 0), some (.int x1)] [] h Q) (kf : (am_b y0) = 0 → am_W (X_Club_body d) 7 [some (.ref 0), some (.int x1)] [] h Q) : am_W (X_Club_body d) 4 [some (.ref 0), some (.int x1)] [.int (am_b y0)] h Q :=
  am_if_ne (tgt := 9) d_Club_body_4 (by decide) kt kf
theorem b_Club_body_7 {d : Nat} {x1 : Int32} {h : am_H} {Q : am_Q} (q : Q (some (.int (-1))) h) : am_W (X_Club_body d) 7 [some (.ref 0), some (.int x1)] [] h Q :=
  am_iconst (v := (-1)) d_Club_body_7 (by decide) <|
    am_iret rfl d_Club_body_8 q
theorem b_Club_body_9 {d : Nat} {x1 : Int32} {h : am_H} {Q : am_Q} (k : m_Words_isFull d [.ref 27] h (fun r hh => am_W (X_Club_body (d + 1)) 16 [some (.ref 0), some (.int x1)] (r.toList ++ []) hh Q)) : am_W (X_Club_body (d + 1)) 9 [some (.ref 0), some (.int x1)] [] h Q :=
  am_aload_n d_Club_body_9 rfl (i := 0) rfl <|
    am_getR (ci := 0) (i := 7) rfl rfl rfl (Nat.le_of_ble_eq_true rfl) w_369 d_Club_body_10 <|
    am_callV (vs := []) (st := []) (k := 27) (ci := 8) rfl d_Club_body_13 rfl rfl w_1152 w_1153 w_1154 w_92 w_1155 p_Words_isFull (Nat.le_of_ble_eq_true rfl) (Nat.le_of_ble_eq_true rfl) rfl k
theorem b_Club_body_16 {d : Nat} {x1 : Int32} {y0 : Bool} {h : am_H} {Q : am_Q} (kt : (am_b y0) = 0 → am_W (X_Club_body d) 24 [some (.ref 0), some (.int x1)] [] h Q) (kf : ¬ (am_b y0) = 0 → am_W (X_Club_body d) 19 [some (.ref 0), some (.int x1)] [] h Q) : am_W (X_Club_body d) 16 [some (.ref 0), some (.int x1)] [.int (am_b y0)] h Q :=
  am_if_eq (tgt := 24) d_Club_body_16 (by decide) kt kf
theorem b_Club_body_19 {d : Nat} {x1 : Int32} {h : am_H} {Q : am_Q} (q : Q (some (.int (-3))) h) : am_W (X_Club_body d) 19 [some (.ref 0), some (.int x1)] [] h Q :=
  am_bipush (v := (-3)) d_Club_body_19 (by decide) <|
    am_goto (tgt := 32) d_Club_body_21 (by decide) <|
    am_iret rfl d_Club_body_32 q
theorem b_Club_body_24 {d : Nat} {x1 : Int32} {h : am_H} {Q : am_Q} (k : m_Words_addWord d [.ref 27, .int x1] h (fun r hh => am_W (X_Club_body (d + 1)) 32 [some (.ref 0), some (.int x1)] (r.toList ++ []) hh Q)) : am_W (X_Club_body (d + 1)) 24 [some (.ref 0), some (.int x1)] [] h Q :=
  am_aload_n d_Club_body_24 rfl (i := 0) rfl <|
    am_getR (ci := 0) (i := 7) rfl rfl rfl (Nat.le_of_ble_eq_true rfl) w_369 d_Club_body_25 <|
    am_iload_n d_Club_body_28 rfl (i := 1) rfl <|
    am_callV (vs := [.int x1]) (st := []) (k := 27) (ci := 8) rfl d_Club_body_29 rfl rfl w_1156 w_1157 w_1158 w_92 w_1159 p_Words_addWord (Nat.le_of_ble_eq_true rfl) (Nat.le_of_ble_eq_true rfl) rfl k
theorem b_Club_body_32 {d : Nat} {x1 : Int32} {y0 : Int32} {h : am_H} {Q : am_Q} (q : Q (some (.int y0)) h) : am_W (X_Club_body d) 32 [some (.ref 0), some (.int x1)] [.int y0] h Q :=
  am_iret rfl d_Club_body_32 q
theorem t_Club_body_32 {d : Nat} {x1 : Int32} {y0 : Int32} {h : am_H} {Q : am_Q} {res : Int32 × am_H} (e : f_Club_body_32 h y0 = some res) (q : Q (some (.int res.1)) res.2) : am_W (X_Club_body (d + 1)) 32 [some (.ref 0), some (.int x1)] [.int y0] h Q :=
  b_Club_body_32 (d := (d + 1)) (q := (am_rIpi (v := y0) e q))
theorem t_Club_body_24 {d : Nat} {x1 : Int32} {h : am_H} {Q : am_Q} {res : Int32 × am_H} (e : f_Club_body_24 h x1 = some res) (q : Q (some (.int res.1)) res.2) : am_W (X_Club_body (d + 1)) 24 [some (.ref 0), some (.int x1)] [] h Q :=
  (am_bd e).elim fun p hp => b_Club_body_24 (d := d) (k := c_Words_addWord (d := d) hp.1 (t_Club_body_32 hp.2 q))
theorem t_Club_body_19 {d : Nat} {x1 : Int32} {h : am_H} {Q : am_Q} {res : Int32 × am_H} (e : f_Club_body_19 h = some res) (q : Q (some (.int res.1)) res.2) : am_W (X_Club_body (d + 1)) 19 [some (.ref 0), some (.int x1)] [] h Q :=
  b_Club_body_19 (d := (d + 1)) (q := (am_rIpi (v := (-3)) e q))
theorem t_Club_body_16 {d : Nat} {x1 : Int32} {y0 : Bool} {h : am_H} {Q : am_Q} {res : Int32 × am_H} (e : f_Club_body_16 h x1 y0 = some res) (q : Q (some (.int res.1)) res.2) : am_W (X_Club_body (d + 1)) 16 [some (.ref 0), some (.int x1)] [.int (am_b y0)] h Q :=
  b_Club_body_16 (d := (d + 1)) (kt := fun c => (t_Club_body_24 (am_iff e (am_bz c)) q)) (kf := fun c => (t_Club_body_19 (am_ift e (am_bn c)) q))
theorem t_Club_body_9 {d : Nat} {x1 : Int32} {h : am_H} {Q : am_Q} {res : Int32 × am_H} (e : f_Club_body_9 h x1 = some res) (q : Q (some (.int res.1)) res.2) : am_W (X_Club_body (d + 1)) 9 [some (.ref 0), some (.int x1)] [] h Q :=
  b_Club_body_9 (d := d) (k := c_Words_isFull (d := d) rfl (t_Club_body_16 e q))
theorem t_Club_body_7 {d : Nat} {x1 : Int32} {h : am_H} {Q : am_Q} {res : Int32 × am_H} (e : f_Club_body_7 h = some res) (q : Q (some (.int res.1)) res.2) : am_W (X_Club_body (d + 1)) 7 [some (.ref 0), some (.int x1)] [] h Q :=
  b_Club_body_7 (d := (d + 1)) (q := (am_rIpi (v := (-1)) e q))
theorem t_Club_body_4 {d : Nat} {x1 : Int32} {y0 : Bool} {h : am_H} {Q : am_Q} {res : Int32 × am_H} (e : f_Club_body_4 h x1 y0 = some res) (q : Q (some (.int res.1)) res.2) : am_W (X_Club_body (d + 1)) 4 [some (.ref 0), some (.int x1)] [.int (am_b y0)] h Q :=
  b_Club_body_4 (d := (d + 1)) (kt := fun c => (t_Club_body_9 (am_ift e (am_bn c)) q)) (kf := fun c => (t_Club_body_7 (am_iff e (am_bz c)) q))
theorem t_Club_body_0 {d : Nat} {x1 : Int32} {h : am_H} {Q : am_Q} {res : Int32 × am_H} (e : f_Club_body h x1 = some res) (q : Q (some (.int res.1)) res.2) : am_W (X_Club_body (d + 1)) 0 [some (.ref 0), some (.int x1)] [] h Q :=
  b_Club_body_0 (d := d) (k := c_Words_isKind (d := d) rfl (t_Club_body_4 e q))
theorem c_Club_body {d : Nat} {x1 : Int32} {h : am_H} {Q : am_Q} {res : Int32 × am_H} (e : f_Club_body h x1 = some res) (q : Q (some (.int res.1)) res.2) : m_Club_body (d + 1) [.ref 0, .int x1] h Q :=
  e_Club_body (t_Club_body_0 e q)
theorem d_Words_holderOf_0 : decode prog_10_method_14_code 0 = .ok (.iload_n 0, 1) := by decide +kernel
theorem d_Words_holderOf_1 : decode prog_10_method_14_code 1 = .ok (.istore_n 2, 1) := by decide +kernel
theorem d_Words_holderOf_2 : decode prog_10_method_14_code 2 = .ok (.iconst 0, 1) := by decide +kernel
theorem d_Words_holderOf_3 : decode prog_10_method_14_code 3 = .ok (.istore_n 3, 1) := by decide +kernel
theorem d_Words_holderOf_4 : decode prog_10_method_14_code 4 = .ok (.iload_n 3, 1) := by decide +kernel
theorem d_Words_holderOf_5 : decode prog_10_method_14_code 5 = .ok (.getstatic 25, 3) := by decide +kernel
theorem d_Words_holderOf_8 : decode prog_10_method_14_code 8 = .ok (.arraylength, 1) := by decide +kernel
theorem d_Words_holderOf_9 : decode prog_10_method_14_code 9 = .ok (.if_icmp .ge 54, 3) := by decide +kernel
theorem d_Words_holderOf_12 : decode prog_10_method_14_code 12 = .ok (.iload_n 2, 1) := by decide +kernel
theorem d_Words_holderOf_13 : decode prog_10_method_14_code 13 = .ok (.invokestatic 28, 3) := by decide +kernel
theorem d_Words_holderOf_16 : decode prog_10_method_14_code 16 = .ok (.ifCond .eq 47, 3) := by decide +kernel
theorem d_Words_holderOf_19 : decode prog_10_method_14_code 19 = .ok (.iload_n 2, 1) := by decide +kernel
theorem d_Words_holderOf_20 : decode prog_10_method_14_code 20 = .ok (.iconst 4, 1) := by decide +kernel
theorem d_Words_holderOf_21 : decode prog_10_method_14_code 21 = .ok (.imul, 1) := by decide +kernel
theorem d_Words_holderOf_22 : decode prog_10_method_14_code 22 = .ok (.iload_n 1, 1) := by decide +kernel
theorem d_Words_holderOf_23 : decode prog_10_method_14_code 23 = .ok (.iadd, 1) := by decide +kernel
theorem d_Words_holderOf_24 : decode prog_10_method_14_code 24 = .ok (.istore 4, 2) := by decide +kernel
theorem d_Words_holderOf_26 : decode prog_10_method_14_code 26 = .ok (.iload 4, 2) := by decide +kernel
theorem d_Words_holderOf_28 : decode prog_10_method_14_code 28 = .ok (.ifCond .lt 23, 3) := by decide +kernel
theorem d_Words_holderOf_31 : decode prog_10_method_14_code 31 = .ok (.iload 4, 2) := by decide +kernel
theorem d_Words_holderOf_33 : decode prog_10_method_14_code 33 = .ok (.getstatic 52, 3) := by decide +kernel
theorem d_Words_holderOf_36 : decode prog_10_method_14_code 36 = .ok (.arraylength, 1) := by decide +kernel
theorem d_Words_holderOf_37 : decode prog_10_method_14_code 37 = .ok (.if_icmp .ge 14, 3) := by decide +kernel
theorem d_Words_holderOf_40 : decode prog_10_method_14_code 40 = .ok (.getstatic 52, 3) := by decide +kernel
theorem d_Words_holderOf_43 : decode prog_10_method_14_code 43 = .ok (.iload 4, 2) := by decide +kernel
theorem d_Words_holderOf_45 : decode prog_10_method_14_code 45 = .ok (.iaload, 1) := by decide +kernel
theorem d_Words_holderOf_46 : decode prog_10_method_14_code 46 = .ok (.ifCond .eq 5, 3) := by decide +kernel
theorem d_Words_holderOf_49 : decode prog_10_method_14_code 49 = .ok (.iload_n 2, 1) := by decide +kernel
theorem d_Words_holderOf_50 : decode prog_10_method_14_code 50 = .ok (.ireturn, 1) := by decide +kernel
theorem d_Words_holderOf_51 : decode prog_10_method_14_code 51 = .ok (.getstatic 25, 3) := by decide +kernel
theorem d_Words_holderOf_54 : decode prog_10_method_14_code 54 = .ok (.iload_n 2, 1) := by decide +kernel
theorem d_Words_holderOf_55 : decode prog_10_method_14_code 55 = .ok (.iaload, 1) := by decide +kernel
theorem d_Words_holderOf_56 : decode prog_10_method_14_code 56 = .ok (.istore_n 2, 1) := by decide +kernel
theorem d_Words_holderOf_57 : decode prog_10_method_14_code 57 = .ok (.iinc 3 1, 3) := by decide +kernel
theorem d_Words_holderOf_60 : decode prog_10_method_14_code 60 = .ok (.goto (-56), 3) := by decide +kernel
theorem d_Words_holderOf_63 : decode prog_10_method_14_code 63 = .ok (.iconst (-1), 1) := by decide +kernel
theorem d_Words_holderOf_64 : decode prog_10_method_14_code 64 = .ok (.ireturn, 1) := by decide +kernel
theorem b_Words_holderOf_0 {d : Nat} {x0 : Int32} {x1 : Int32} {h : am_H} {Q : am_Q} (k : am_W (X_Words_holderOf d) 4 [some (.int x0), some (.int x1), some (.int x0), some (.int 0), none] [] h Q) : am_W (X_Words_holderOf d) 0 [some (.int x0), some (.int x1), none, none, none] [] h Q :=
  am_iload_n d_Words_holderOf_0 rfl (i := 0) rfl <|
    am_istore_n (ls' := [some (.int x0), some (.int x1), some (.int x0), none, none]) d_Words_holderOf_1 rfl (Nat.le_of_ble_eq_true rfl) rfl <|
    am_iconst (v := 0) d_Words_holderOf_2 (by decide) <|
    am_istore_n (ls' := [some (.int x0), some (.int x1), some (.int x0), some (.int 0), none]) d_Words_holderOf_3 rfl (Nat.le_of_ble_eq_true rfl) rfl <|
    k
theorem b_Words_holderOf_4 {d : Nat} {x0 : Int32} {x1 : Int32} {x2 : Int32} {x3 : Int32} {h : am_H} {Q : am_Q} (kt : 8 ≤ x3 → am_W (X_Words_holderOf d) 63 [some (.int x0), some (.int x1), some (.int x2), some (.int x3), none] [] h Q) (kf : ¬ 8 ≤ x3 → am_W (X_Words_holderOf d) 12 [some (.int x0), some (.int x1), some (.int x2), some (.int x3), none] [] h Q) : am_W (X_Words_holderOf d) 4 [some (.int x0), some (.int x1), some (.int x2), some (.int x3), none] [] h Q :=
  am_iload_n d_Words_holderOf_4 rfl (i := 3) rfl <|
    am_gets tb_ABOVE w_1150 d_Words_holderOf_5 <|
    am_tlen (v := 8) tb_ABOVE (by decide) d_Words_holderOf_8 <|
    am_icmp_ge (tgt := 63) d_Words_holderOf_9 (by decide) kt kf
theorem b_Words_holderOf_12 {d : Nat} {x0 : Int32} {x1 : Int32} {x2 : Int32} {x3 : Int32} {h : am_H} {Q : am_Q} (k : m_Words_isKind d [.int x2] h (fun r hh => am_W (X_Words_holderOf (d + 1)) 16 [some (.int x0), some (.int x1), some (.int x2), some (.int x3), none] (r.toList ++ []) hh Q)) : am_W (X_Words_holderOf (d + 1)) 12 [some (.int x0), some (.int x1), some (.int x2), some (.int x3), none] [] h Q :=
  am_iload_n d_Words_holderOf_12 rfl (i := 2) rfl <|
    am_callS (vs := [.int x2]) (st := []) rfl d_Words_holderOf_13 w_1183 w_1148 w_92 w_1149 p_Words_isKind (Nat.le_of_ble_eq_true rfl) (Nat.le_of_ble_eq_true rfl) rfl k
theorem b_Words_holderOf_16 {d : Nat} {x0 : Int32} {x1 : Int32} {x2 : Int32} {x3 : Int32} {y0 : Bool} {h : am_H} {Q : am_Q} (kt : (am_b y0) = 0 → am_W (X_Words_holderOf d) 63 [some (.int x0), some (.int x1), some (.int x2), some (.int x3), none] [] h Q) (kf : ¬ (am_b y0) = 0 → am_W (X_Words_holderOf d) 19 [some (.int x0), some (.int x1), some (.int x2), some (.int x3), none] [] h Q) : am_W (X_Words_holderOf d) 16 [some (.int x0), some (.int x1), some (.int x2), some (.int x3), none] [.int (am_b y0)] h Q :=
  am_if_eq (tgt := 63) d_Words_holderOf_16 (by decide) kt kf
theorem b_Words_holderOf_19 {d : Nat} {x0 : Int32} {x1 : Int32} {x2 : Int32} {x3 : Int32} {h : am_H} {Q : am_Q} (kt : ((x2 * 4) + x1) < 0 → am_W (X_Words_holderOf d) 51 [some (.int x0), some (.int x1), some (.int x2), some (.int x3), some (.int ((x2 * 4) + x1))] [] h Q) (kf : ¬ ((x2 * 4) + x1) < 0 → am_W (X_Words_holderOf d) 31 [some (.int x0), some (.int x1), some (.int x2), some (.int x3), some (.int ((x2 * 4) + x1))] [] h Q) : am_W (X_Words_holderOf d) 19 [some (.int x0), some (.int x1), some (.int x2), some (.int x3), none] [] h Q :=
  am_iload_n d_Words_holderOf_19 rfl (i := 2) rfl <|
    am_iconst (v := 4) d_Words_holderOf_20 (by decide) <|
    am_imul d_Words_holderOf_21 <|
    am_iload_n d_Words_holderOf_22 rfl (i := 1) rfl <|
    am_iadd d_Words_holderOf_23 <|
    am_istore (ls' := [some (.int x0), some (.int x1), some (.int x2), some (.int x3), some (.int ((x2 * 4) + x1))]) d_Words_holderOf_24 (Nat.le_of_ble_eq_true rfl) rfl <|
    am_iload d_Words_holderOf_26 rfl <|
    am_if_lt (tgt := 51) d_Words_holderOf_28 (by decide) kt kf
theorem b_Words_holderOf_31 {d : Nat} {x0 : Int32} {x1 : Int32} {x2 : Int32} {x3 : Int32} {x4 : Int32} {h : am_H} {Q : am_Q} (kt : 32 ≤ x4 → am_W (X_Words_holderOf d) 51 [some (.int x0), some (.int x1), some (.int x2), some (.int x3), some (.int x4)] [] h Q) (kf : ¬ 32 ≤ x4 → am_W (X_Words_holderOf d) 40 [some (.int x0), some (.int x1), some (.int x2), some (.int x3), some (.int x4)] [] h Q) : am_W (X_Words_holderOf d) 31 [some (.int x0), some (.int x1), some (.int x2), some (.int x3), some (.int x4)] [] h Q :=
  am_iload d_Words_holderOf_31 rfl <|
    am_gets tb_OWN w_1184 d_Words_holderOf_33 <|
    am_tlen (v := 32) tb_OWN (by decide) d_Words_holderOf_36 <|
    am_icmp_ge (tgt := 51) d_Words_holderOf_37 (by decide) kt kf
theorem b_Words_holderOf_40 {d : Nat} {x0 : Int32} {x1 : Int32} {x2 : Int32} {x3 : Int32} {x4 : Int32} {h : am_H} {Q : am_Q} (q0 : vp_in x4 32) (kt : (tv_OWN x4) = 0 → am_W (X_Words_holderOf d) 51 [some (.int x0), some (.int x1), some (.int x2), some (.int x3), some (.int x4)] [] h Q) (kf : ¬ (tv_OWN x4) = 0 → am_W (X_Words_holderOf d) 49 [some (.int x0), some (.int x1), some (.int x2), some (.int x3), some (.int x4)] [] h Q) : am_W (X_Words_holderOf d) 40 [some (.int x0), some (.int x1), some (.int x2), some (.int x3), some (.int x4)] [] h Q :=
  am_gets tb_OWN w_1184 d_Words_holderOf_40 <|
    am_iload d_Words_holderOf_43 rfl <|
    am_ti (v := tv_OWN x4) tb_OWN q0 (tv_OWN_ok q0) d_Words_holderOf_45 <|
    am_if_eq (tgt := 51) d_Words_holderOf_46 (by decide) kt kf
theorem b_Words_holderOf_49 {d : Nat} {x0 : Int32} {x1 : Int32} {x2 : Int32} {x3 : Int32} {x4 : Int32} {h : am_H} {Q : am_Q} (q : Q (some (.int x2)) h) : am_W (X_Words_holderOf d) 49 [some (.int x0), some (.int x1), some (.int x2), some (.int x3), some (.int x4)] [] h Q :=
  am_iload_n d_Words_holderOf_49 rfl (i := 2) rfl <|
    am_iret rfl d_Words_holderOf_50 q
theorem b_Words_holderOf_51 {d : Nat} {x0 : Int32} {x1 : Int32} {x2 : Int32} {x3 : Int32} {x4 : Int32} {h : am_H} {Q : am_Q} (q0 : vp_in x2 8) (k : am_W (X_Words_holderOf d) 4 [some (.int x0), some (.int x1), some (.int (tv_ABOVE x2)), some (.int (x3 + 1)), some (.int x4)] [] h Q) : am_W (X_Words_holderOf d) 51 [some (.int x0), some (.int x1), some (.int x2), some (.int x3), some (.int x4)] [] h Q :=
  am_gets tb_ABOVE w_1150 d_Words_holderOf_51 <|
    am_iload_n d_Words_holderOf_54 rfl (i := 2) rfl <|
    am_ti (v := tv_ABOVE x2) tb_ABOVE q0 (tv_ABOVE_ok q0) d_Words_holderOf_55 <|
    am_istore_n (ls' := [some (.int x0), some (.int x1), some (.int (tv_ABOVE x2)), some (.int x3), some (.int x4)]) d_Words_holderOf_56 rfl (Nat.le_of_ble_eq_true rfl) rfl <|
    am_iinc (v := (x3 + 1)) (ls' := [some (.int x0), some (.int x1), some (.int (tv_ABOVE x2)), some (.int (x3 + 1)), some (.int x4)]) d_Words_holderOf_57 rfl rfl (Nat.le_of_ble_eq_true rfl) rfl <|
    am_goto (tgt := 4) d_Words_holderOf_60 (by decide) k
theorem b_Words_holderOf_63 {d : Nat} {x0 : Int32} {x1 : Int32} {x2 : Int32} {x3 : Int32} {h : am_H} {Q : am_Q} (q : Q (some (.int (-1))) h) : am_W (X_Words_holderOf d) 63 [some (.int x0), some (.int x1), some (.int x2), some (.int x3), none] [] h Q :=
  am_iconst (v := (-1)) d_Words_holderOf_63 (by decide) <|
    am_iret rfl d_Words_holderOf_64 q
theorem t_Words_holderOf_63 {d : Nat} {x0 : Int32} {x1 : Int32} {x2 : Int32} {x3 : Int32} {h : am_H} {Q : am_Q} {res : Int32} (e : f_Words_holderOf_63 = some res) (q : Q (some (.int res)) h) : am_W (X_Words_holderOf (d + 1)) 63 [some (.int x0), some (.int x1), some (.int x2), some (.int x3), none] [] h Q :=
  b_Words_holderOf_63 (d := (d + 1)) (q := (am_rIp (v := (-1)) e q))
theorem t_Words_holderOf_51 {d : Nat} {k4 : Int32 → Int32 → Int32 → Option (Int32)} {x0 : Int32} {x1 : Int32} {x2 : Int32} {x3 : Int32} {x4 : Int32} {h : am_H} {Q : am_Q} {res : Int32} (hk4 : ∀ (x0 : Int32) (x1 : Int32) (x2 : Int32) (x3 : Int32), k4 x1 x2 x3 = some res → am_W (X_Words_holderOf (d + 1)) 4 [some (.int x0), some (.int x1), some (.int x2), some (.int x3), none] [] h Q) (e : f_Words_holderOf_51 k4 x1 x2 x3 = some res) (q : Q (some (.int res)) h) : am_W (X_Words_holderOf (d + 1)) 51 [some (.int x0), some (.int x1), some (.int x2), some (.int x3), some (.int x4)] [] h Q :=
  b_Words_holderOf_51 (d := (d + 1)) (q0 := (am_okv (am_gd e))) (k := (am_wk2 (hk4 _ _ _ _ (am_ga e)) ⟨rfl, ⟨rfl, ⟨rfl, ⟨rfl, trivial⟩⟩⟩⟩))
theorem t_Words_holderOf_49 {d : Nat} {x0 : Int32} {x1 : Int32} {x2 : Int32} {x3 : Int32} {x4 : Int32} {h : am_H} {Q : am_Q} {res : Int32} (e : f_Words_holderOf_49 x2 = some res) (q : Q (some (.int res)) h) : am_W (X_Words_holderOf (d + 1)) 49 [some (.int x0), some (.int x1), some (.int x2), some (.int x3), some (.int x4)] [] h Q :=
  b_Words_holderOf_49 (d := (d + 1)) (q := (am_rIp (v := x2) e q))
theorem t_Words_holderOf_40 {d : Nat} {k4 : Int32 → Int32 → Int32 → Option (Int32)} {x0 : Int32} {x1 : Int32} {x2 : Int32} {x3 : Int32} {x4 : Int32} {h : am_H} {Q : am_Q} {res : Int32} (hk4 : ∀ (x0 : Int32) (x1 : Int32) (x2 : Int32) (x3 : Int32), k4 x1 x2 x3 = some res → am_W (X_Words_holderOf (d + 1)) 4 [some (.int x0), some (.int x1), some (.int x2), some (.int x3), none] [] h Q) (e : f_Words_holderOf_40 k4 x1 x2 x3 x4 = some res) (q : Q (some (.int res)) h) : am_W (X_Words_holderOf (d + 1)) 40 [some (.int x0), some (.int x1), some (.int x2), some (.int x3), some (.int x4)] [] h Q :=
  b_Words_holderOf_40 (d := (d + 1)) (q0 := (am_okv (am_gd e))) (kt := fun c => (t_Words_holderOf_51 hk4 (am_ift (am_ga e) c) q)) (kf := fun c => (t_Words_holderOf_49 (am_ife (am_ga e) c) q))
theorem t_Words_holderOf_31 {d : Nat} {k4 : Int32 → Int32 → Int32 → Option (Int32)} {x0 : Int32} {x1 : Int32} {x2 : Int32} {x3 : Int32} {x4 : Int32} {h : am_H} {Q : am_Q} {res : Int32} (hk4 : ∀ (x0 : Int32) (x1 : Int32) (x2 : Int32) (x3 : Int32), k4 x1 x2 x3 = some res → am_W (X_Words_holderOf (d + 1)) 4 [some (.int x0), some (.int x1), some (.int x2), some (.int x3), none] [] h Q) (e : f_Words_holderOf_31 k4 x1 x2 x3 x4 = some res) (q : Q (some (.int res)) h) : am_W (X_Words_holderOf (d + 1)) 31 [some (.int x0), some (.int x1), some (.int x2), some (.int x3), some (.int x4)] [] h Q :=
  b_Words_holderOf_31 (d := (d + 1)) (kt := fun c => (t_Words_holderOf_51 hk4 (am_ift e c) q)) (kf := fun c => (t_Words_holderOf_40 hk4 (am_ife e c) q))
theorem t_Words_holderOf_19 {d : Nat} {k4 : Int32 → Int32 → Int32 → Option (Int32)} {x0 : Int32} {x1 : Int32} {x2 : Int32} {x3 : Int32} {h : am_H} {Q : am_Q} {res : Int32} (hk4 : ∀ (x0 : Int32) (x1 : Int32) (x2 : Int32) (x3 : Int32), k4 x1 x2 x3 = some res → am_W (X_Words_holderOf (d + 1)) 4 [some (.int x0), some (.int x1), some (.int x2), some (.int x3), none] [] h Q) (e : f_Words_holderOf_19 k4 x1 x2 x3 = some res) (q : Q (some (.int res)) h) : am_W (X_Words_holderOf (d + 1)) 19 [some (.int x0), some (.int x1), some (.int x2), some (.int x3), none] [] h Q :=
  b_Words_holderOf_19 (d := (d + 1)) (kt := fun c => (t_Words_holderOf_51 hk4 (am_ift e c) q)) (kf := fun c => (t_Words_holderOf_31 hk4 (am_ife e c) q))
theorem t_Words_holderOf_16 {d : Nat} {k4 : Int32 → Int32 → Int32 → Option (Int32)} {x0 : Int32} {x1 : Int32} {x2 : Int32} {x3 : Int32} {y0 : Bool} {h : am_H} {Q : am_Q} {res : Int32} (hk4 : ∀ (x0 : Int32) (x1 : Int32) (x2 : Int32) (x3 : Int32), k4 x1 x2 x3 = some res → am_W (X_Words_holderOf (d + 1)) 4 [some (.int x0), some (.int x1), some (.int x2), some (.int x3), none] [] h Q) (e : f_Words_holderOf_16 k4 x1 x2 x3 y0 = some res) (q : Q (some (.int res)) h) : am_W (X_Words_holderOf (d + 1)) 16 [some (.int x0), some (.int x1), some (.int x2), some (.int x3), none] [.int (am_b y0)] h Q :=
  b_Words_holderOf_16 (d := (d + 1)) (kt := fun c => (t_Words_holderOf_63 (am_iff e (am_bz c)) q)) (kf := fun c => (t_Words_holderOf_19 hk4 (am_ift e (am_bn c)) q))
theorem t_Words_holderOf_12 {d : Nat} {k4 : Int32 → Int32 → Int32 → Option (Int32)} {x0 : Int32} {x1 : Int32} {x2 : Int32} {x3 : Int32} {h : am_H} {Q : am_Q} {res : Int32} (hk4 : ∀ (x0 : Int32) (x1 : Int32) (x2 : Int32) (x3 : Int32), k4 x1 x2 x3 = some res → am_W (X_Words_holderOf (d + 1)) 4 [some (.int x0), some (.int x1), some (.int x2), some (.int x3), none] [] h Q) (e : f_Words_holderOf_12 k4 x1 x2 x3 = some res) (q : Q (some (.int res)) h) : am_W (X_Words_holderOf (d + 1)) 12 [some (.int x0), some (.int x1), some (.int x2), some (.int x3), none] [] h Q :=
  b_Words_holderOf_12 (d := d) (k := c_Words_isKind (d := d) rfl (t_Words_holderOf_16 hk4 e q))
theorem t_Words_holderOf_4 {d : Nat} {k4 : Int32 → Int32 → Int32 → Option (Int32)} {x0 : Int32} {x1 : Int32} {x2 : Int32} {x3 : Int32} {h : am_H} {Q : am_Q} {res : Int32} (hk4 : ∀ (x0 : Int32) (x1 : Int32) (x2 : Int32) (x3 : Int32), k4 x1 x2 x3 = some res → am_W (X_Words_holderOf (d + 1)) 4 [some (.int x0), some (.int x1), some (.int x2), some (.int x3), none] [] h Q) (e : f_Words_holderOf_4 k4 x1 x2 x3 = some res) (q : Q (some (.int res)) h) : am_W (X_Words_holderOf (d + 1)) 4 [some (.int x0), some (.int x1), some (.int x2), some (.int x3), none] [] h Q :=
  b_Words_holderOf_4 (d := (d + 1)) (kt := fun c => (t_Words_holderOf_63 (am_ift e c) q)) (kf := fun c => (t_Words_holderOf_12 hk4 (am_ife e c) q))
theorem t_Words_holderOf_4_l {d : Nat} {h : am_H} {Q : am_Q} {res : Int32} (q : Q (some (.int res)) h) : ∀ (n : Nat) (x0 : Int32) (x1 : Int32) (x2 : Int32) (x3 : Int32), f_Words_holderOf_4_l n x1 x2 x3 = some res → am_W (X_Words_holderOf (d + 1)) 4 [some (.int x0), some (.int x1), some (.int x2), some (.int x3), none] [] h Q := by
  intro n
  induction n with
  | zero => intro x0 x1 x2 x3 e; exact am_nn e
  | succ n ih => intro x0 x1 x2 x3 e; exact t_Words_holderOf_4 (fun x0 x1 x2 x3 e => ih x0 x1 x2 x3  e) e q
theorem t_Words_holderOf_0 {d : Nat} {x0 : Int32} {x1 : Int32} {h : am_H} {Q : am_Q} {res : Int32} (e : f_Words_holderOf x0 x1 = some res) (q : Q (some (.int res)) h) : am_W (X_Words_holderOf (d + 1)) 0 [some (.int x0), some (.int x1), none, none, none] [] h Q :=
  b_Words_holderOf_0 (d := (d + 1)) (k := (t_Words_holderOf_4_l q am_fu _ _ _ _ e))
theorem c_Words_holderOf {d : Nat} {x0 : Int32} {x1 : Int32} {h : am_H} {Q : am_Q} {res : Int32} (e : f_Words_holderOf x0 x1 = some res) (q : Q (some (.int res)) h) : m_Words_holderOf (d + 1) [.int x0, .int x1] h Q :=
  e_Words_holderOf (t_Words_holderOf_0 e q)
theorem d_Words_note_0 : decode prog_10_method_15_code 0 = .ok (.aload_n 0, 1) := by decide +kernel
theorem d_Words_note_1 : decode prog_10_method_15_code 1 = .ok (.getfield 22, 3) := by decide +kernel
theorem d_Words_note_4 : decode prog_10_method_15_code 4 = .ok (.ifCond .lt 22, 3) := by decide +kernel
theorem d_Words_note_7 : decode prog_10_method_15_code 7 = .ok (.aload_n 0, 1) := by decide +kernel
theorem d_Words_note_8 : decode prog_10_method_15_code 8 = .ok (.getfield 22, 3) := by decide +kernel
theorem d_Words_note_11 : decode prog_10_method_15_code 11 = .ok (.bipush 24, 2) := by decide +kernel
theorem d_Words_note_13 : decode prog_10_method_15_code 13 = .ok (.if_icmp .ge 13, 3) := by decide +kernel
theorem d_Words_note_16 : decode prog_10_method_15_code 16 = .ok (.aload_n 0, 1) := by decide +kernel
theorem d_Words_note_17 : decode prog_10_method_15_code 17 = .ok (.getfield 15, 3) := by decide +kernel
theorem d_Words_note_20 : decode prog_10_method_15_code 20 = .ok (.aload_n 0, 1) := by decide +kernel
theorem d_Words_note_21 : decode prog_10_method_15_code 21 = .ok (.getfield 22, 3) := by decide +kernel
theorem d_Words_note_24 : decode prog_10_method_15_code 24 = .ok (.iload_n 1, 1) := by decide +kernel
theorem d_Words_note_25 : decode prog_10_method_15_code 25 = .ok (.iastore, 1) := by decide +kernel
theorem d_Words_note_26 : decode prog_10_method_15_code 26 = .ok (.aload_n 0, 1) := by decide +kernel
theorem d_Words_note_27 : decode prog_10_method_15_code 27 = .ok (.dup, 1) := by decide +kernel
theorem d_Words_note_28 : decode prog_10_method_15_code 28 = .ok (.getfield 22, 3) := by decide +kernel
theorem d_Words_note_31 : decode prog_10_method_15_code 31 = .ok (.iconst 1, 1) := by decide +kernel
theorem d_Words_note_32 : decode prog_10_method_15_code 32 = .ok (.iadd, 1) := by decide +kernel
theorem d_Words_note_33 : decode prog_10_method_15_code 33 = .ok (.putfield 22, 3) := by decide +kernel
theorem d_Words_note_36 : decode prog_10_method_15_code 36 = .ok (.return_, 1) := by decide +kernel
theorem b_Words_note_0 {d : Nat} {x1 : Int32} {h : am_H} {Q : am_Q} (kt : (h.1 27 3) < 0 → am_W (X_Words_note d) 26 [some (.ref 27), some (.int x1)] [] h Q) (kf : ¬ (h.1 27 3) < 0 → am_W (X_Words_note d) 7 [some (.ref 27), some (.int x1)] [] h Q) : am_W (X_Words_note d) 0 [some (.ref 27), some (.int x1)] [] h Q :=
  am_aload_n d_Words_note_0 rfl (i := 0) rfl <|
    am_getI (ci := 8) (i := 3) rfl rfl rfl (Nat.le_of_ble_eq_true rfl) w_332 d_Words_note_1 <|
    am_if_lt (tgt := 26) d_Words_note_4 (by decide) kt kf
theorem b_Words_note_7 {d : Nat} {x1 : Int32} {h : am_H} {Q : am_Q} (kt : 24 ≤ (h.1 27 3) → am_W (X_Words_note d) 26 [some (.ref 27), some (.int x1)] [] h Q) (kf : ¬ 24 ≤ (h.1 27 3) → am_W (X_Words_note d) 16 [some (.ref 27), some (.int x1)] [] h Q) : am_W (X_Words_note d) 7 [some (.ref 27), some (.int x1)] [] h Q :=
  am_aload_n d_Words_note_7 rfl (i := 0) rfl <|
    am_getI (ci := 8) (i := 3) rfl rfl rfl (Nat.le_of_ble_eq_true rfl) w_332 d_Words_note_8 <|
    am_bipush (v := 24) d_Words_note_11 (by decide) <|
    am_icmp_ge (tgt := 26) d_Words_note_13 (by decide) kt kf
theorem b_Words_note_16 {d : Nat} {x1 : Int32} {h : am_H} {Q : am_Q} (q0 : vp_in (h.1 27 3) 24) (k : am_W (X_Words_note d) 26 [some (.ref 27), some (.int x1)] [] (am_pI h 29 (h.1 27 3).toNatClampNeg x1) Q) : am_W (X_Words_note d) 16 [some (.ref 27), some (.int x1)] [] h Q :=
  am_aload_n d_Words_note_16 rfl (i := 0) rfl <|
    am_getR (ci := 8) (i := 1) rfl rfl rfl (Nat.le_of_ble_eq_true rfl) w_330 d_Words_note_17 <|
    am_aload_n d_Words_note_20 rfl (i := 0) rfl <|
    am_getI (ci := 8) (i := 3) rfl rfl rfl (Nat.le_of_ble_eq_true rfl) w_332 d_Words_note_21 <|
    am_iload_n d_Words_note_24 rfl (i := 1) rfl <|
    am_iast rfl q0 d_Words_note_25 <|
    k
theorem b_Words_note_26 {d : Nat} {x1 : Int32} {h : am_H} {Q : am_Q} (q : Q none (am_pI h 27 3 ((h.1 27 3) + 1))) : am_W (X_Words_note d) 26 [some (.ref 27), some (.int x1)] [] h Q :=
  am_aload_n d_Words_note_26 rfl (i := 0) rfl <|
    am_dupR d_Words_note_27 <|
    am_getI (ci := 8) (i := 3) rfl rfl rfl (Nat.le_of_ble_eq_true rfl) w_332 d_Words_note_28 <|
    am_iconst (v := 1) d_Words_note_31 (by decide) <|
    am_iadd d_Words_note_32 <|
    am_putI (ci := 8) (i := 3) rfl rfl rfl (Nat.le_of_ble_eq_true rfl) w_332 rfl rfl rfl d_Words_note_33 <|
    am_vret rfl d_Words_note_36 q
theorem t_Words_note_26 {d : Nat} {x1 : Int32} {h : am_H} {Q : am_Q} {res : am_H} (e : f_Words_note_26 h = some res) (q : Q none res) : am_W (X_Words_note d) 26 [some (.ref 27), some (.int x1)] [] h Q :=
  b_Words_note_26 (d := d) (q := (am_rVpi e q))
theorem t_Words_note_16 {d : Nat} {x1 : Int32} {h : am_H} {Q : am_Q} {res : am_H} (e : f_Words_note_16 h x1 = some res) (q : Q none res) : am_W (X_Words_note d) 16 [some (.ref 27), some (.int x1)] [] h Q :=
  b_Words_note_16 (d := d) (q0 := (am_okv (am_gd e))) (k := (t_Words_note_26 (am_ga e) q))
theorem t_Words_note_7 {d : Nat} {x1 : Int32} {h : am_H} {Q : am_Q} {res : am_H} (e : f_Words_note_7 h x1 = some res) (q : Q none res) : am_W (X_Words_note d) 7 [some (.ref 27), some (.int x1)] [] h Q :=
  b_Words_note_7 (d := d) (kt := fun c => (t_Words_note_26 (am_ift e c) q)) (kf := fun c => (t_Words_note_16 (am_ife e c) q))
theorem t_Words_note_0 {d : Nat} {x1 : Int32} {h : am_H} {Q : am_Q} {res : am_H} (e : f_Words_note h x1 = some res) (q : Q none res) : am_W (X_Words_note d) 0 [some (.ref 27), some (.int x1)] [] h Q :=
  b_Words_note_0 (d := d) (kt := fun c => (t_Words_note_26 (am_ift e c) q)) (kf := fun c => (t_Words_note_7 (am_ife e c) q))
theorem c_Words_note {d : Nat} {x1 : Int32} {h : am_H} {Q : am_Q} {res : am_H} (e : f_Words_note h x1 = some res) (q : Q none res) : m_Words_note d [.ref 27, .int x1] h Q :=
  e_Words_note (t_Words_note_0 e q)
theorem d_Words_hasWord_0 : decode prog_10_method_5_code 0 = .ok (.iload_n 1, 1) := by decide +kernel
theorem d_Words_hasWord_1 : decode prog_10_method_5_code 1 = .ok (.ifCond .lt 21, 3) := by decide +kernel
theorem d_Words_hasWord_4 : decode prog_10_method_5_code 4 = .ok (.iload_n 1, 1) := by decide +kernel
theorem d_Words_hasWord_5 : decode prog_10_method_5_code 5 = .ok (.aload_n 0, 1) := by decide +kernel
theorem d_Words_hasWord_6 : decode prog_10_method_5_code 6 = .ok (.getfield 18, 3) := by decide +kernel
theorem d_Words_hasWord_9 : decode prog_10_method_5_code 9 = .ok (.if_icmp .ge 13, 3) := by decide +kernel
theorem d_Words_hasWord_12 : decode prog_10_method_5_code 12 = .ok (.iload_n 1, 1) := by decide +kernel
theorem d_Words_hasWord_13 : decode prog_10_method_5_code 13 = .ok (.bipush 50, 2) := by decide +kernel
theorem d_Words_hasWord_15 : decode prog_10_method_5_code 15 = .ok (.if_icmp .ge 7, 3) := by decide +kernel
theorem d_Words_hasWord_18 : decode prog_10_method_5_code 18 = .ok (.iconst 1, 1) := by decide +kernel
theorem d_Words_hasWord_19 : decode prog_10_method_5_code 19 = .ok (.goto 4, 3) := by decide +kernel
theorem d_Words_hasWord_22 : decode prog_10_method_5_code 22 = .ok (.iconst 0, 1) := by decide +kernel
theorem d_Words_hasWord_23 : decode prog_10_method_5_code 23 = .ok (.ireturn, 1) := by decide +kernel
theorem b_Words_hasWord_0 {d : Nat} {x1 : Int32} {h : am_H} {Q : am_Q} (kt : x1 < 0 → am_W (X_Words_hasWord d) 22 [some (.ref 27), some (.int x1)] [] h Q) (kf : ¬ x1 < 0 → am_W (X_Words_hasWord d) 4 [some (.ref 27), some (.int x1)] [] h Q) : am_W (X_Words_hasWord d) 0 [some (.ref 27), some (.int x1)] [] h Q :=
  am_iload_n d_Words_hasWord_0 rfl (i := 1) rfl <|
    am_if_lt (tgt := 22) d_Words_hasWord_1 (by decide) kt kf
theorem b_Words_hasWord_4 {d : Nat} {x1 : Int32} {h : am_H} {Q : am_Q} (kt : (h.1 27 2) ≤ x1 → am_W (X_Words_hasWord d) 22 [some (.ref 27), some (.int x1)] [] h Q) (kf : ¬ (h.1 27 2) ≤ x1 → am_W (X_Words_hasWord d) 12 [some (.ref 27), some (.int x1)] [] h Q) : am_W (X_Words_hasWord d) 4 [some (.ref 27), some (.int x1)] [] h Q :=
  am_iload_n d_Words_hasWord_4 rfl (i := 1) rfl <|
    am_aload_n d_Words_hasWord_5 rfl (i := 0) rfl <|
    am_getI (ci := 8) (i := 2) rfl rfl rfl (Nat.le_of_ble_eq_true rfl) w_331 d_Words_hasWord_6 <|
    am_icmp_ge (tgt := 22) d_Words_hasWord_9 (by decide) kt kf
theorem b_Words_hasWord_12 {d : Nat} {x1 : Int32} {h : am_H} {Q : am_Q} (kt : 50 ≤ x1 → am_W (X_Words_hasWord d) 22 [some (.ref 27), some (.int x1)] [] h Q) (kf : ¬ 50 ≤ x1 → am_W (X_Words_hasWord d) 18 [some (.ref 27), some (.int x1)] [] h Q) : am_W (X_Words_hasWord d) 12 [some (.ref 27), some (.int x1)] [] h Q :=
  am_iload_n d_Words_hasWord_12 rfl (i := 1) rfl <|
    am_bipush (v := 50) d_Words_hasWord_13 (by decide) <|
    am_icmp_ge (tgt := 22) d_Words_hasWord_15 (by decide) kt kf
theorem b_Words_hasWord_18 {d : Nat} {x1 : Int32} {h : am_H} {Q : am_Q} (q : Q (some (.int 1)) h) : am_W (X_Words_hasWord d) 18 [some (.ref 27), some (.int x1)] [] h Q :=
  am_iconst (v := 1) d_Words_hasWord_18 (by decide) <|
    am_goto (tgt := 23) d_Words_hasWord_19 (by decide) <|
    am_zret (ty := .boolean) rfl (by decide) d_Words_hasWord_23 q
theorem b_Words_hasWord_22 {d : Nat} {x1 : Int32} {h : am_H} {Q : am_Q} (q : Q (some (.int 0)) h) : am_W (X_Words_hasWord d) 22 [some (.ref 27), some (.int x1)] [] h Q :=
  am_iconst (v := 0) d_Words_hasWord_22 (by decide) <|
    am_zret (ty := .boolean) rfl (by decide) d_Words_hasWord_23 q
theorem t_Words_hasWord_22 {d : Nat} {x1 : Int32} {h : am_H} {Q : am_Q} {res : Bool} (e : f_Words_hasWord_22 h = res) (q : Q (some (.int (am_b res))) h) : am_W (X_Words_hasWord d) 22 [some (.ref 27), some (.int x1)] [] h Q :=
  b_Words_hasWord_22 (d := d) (q := (am_rZt (v := false) e q))
theorem t_Words_hasWord_18 {d : Nat} {x1 : Int32} {h : am_H} {Q : am_Q} {res : Bool} (e : f_Words_hasWord_18 h = res) (q : Q (some (.int (am_b res))) h) : am_W (X_Words_hasWord d) 18 [some (.ref 27), some (.int x1)] [] h Q :=
  b_Words_hasWord_18 (d := d) (q := (am_rZt (v := true) e q))
theorem t_Words_hasWord_12 {d : Nat} {x1 : Int32} {h : am_H} {Q : am_Q} {res : Bool} (e : f_Words_hasWord_12 h x1 = res) (q : Q (some (.int (am_b res))) h) : am_W (X_Words_hasWord d) 12 [some (.ref 27), some (.int x1)] [] h Q :=
  b_Words_hasWord_12 (d := d) (kt := fun c => (t_Words_hasWord_22 (am_ift e c) q)) (kf := fun c => (t_Words_hasWord_18 (am_ife e c) q))
theorem t_Words_hasWord_4 {d : Nat} {x1 : Int32} {h : am_H} {Q : am_Q} {res : Bool} (e : f_Words_hasWord_4 h x1 = res) (q : Q (some (.int (am_b res))) h) : am_W (X_Words_hasWord d) 4 [some (.ref 27), some (.int x1)] [] h Q :=
  b_Words_hasWord_4 (d := d) (kt := fun c => (t_Words_hasWord_22 (am_ift e c) q)) (kf := fun c => (t_Words_hasWord_12 (am_ife e c) q))
theorem t_Words_hasWord_0 {d : Nat} {x1 : Int32} {h : am_H} {Q : am_Q} {res : Bool} (e : f_Words_hasWord h x1 = res) (q : Q (some (.int (am_b res))) h) : am_W (X_Words_hasWord d) 0 [some (.ref 27), some (.int x1)] [] h Q :=
  b_Words_hasWord_0 (d := d) (kt := fun c => (t_Words_hasWord_22 (am_ift e c) q)) (kf := fun c => (t_Words_hasWord_4 (am_ife e c) q))
theorem c_Words_hasWord {d : Nat} {x1 : Int32} {h : am_H} {Q : am_Q} {res : Bool} (e : f_Words_hasWord h x1 = res) (q : Q (some (.int (am_b res))) h) : m_Words_hasWord d [.ref 27, .int x1] h Q :=
  e_Words_hasWord (t_Words_hasWord_0 e q)
theorem d_Words_kindOf_0 : decode prog_10_method_8_code 0 = .ok (.aload_n 0, 1) := by decide +kernel
theorem d_Words_kindOf_1 : decode prog_10_method_8_code 1 = .ok (.iload_n 1, 1) := by decide +kernel
theorem d_Words_kindOf_2 : decode prog_10_method_8_code 2 = .ok (.invokevirtual 32, 3) := by decide +kernel
theorem d_Words_kindOf_5 : decode prog_10_method_8_code 5 = .ok (.ifCond .eq 12, 3) := by decide +kernel
theorem d_Words_kindOf_8 : decode prog_10_method_8_code 8 = .ok (.aload_n 0, 1) := by decide +kernel
theorem d_Words_kindOf_9 : decode prog_10_method_8_code 9 = .ok (.getfield 11, 3) := by decide +kernel
theorem d_Words_kindOf_12 : decode prog_10_method_8_code 12 = .ok (.iload_n 1, 1) := by decide +kernel
theorem d_Words_kindOf_13 : decode prog_10_method_8_code 13 = .ok (.iaload, 1) := by decide +kernel
theorem d_Words_kindOf_14 : decode prog_10_method_8_code 14 = .ok (.goto 4, 3) := by decide +kernel
theorem d_Words_kindOf_17 : decode prog_10_method_8_code 17 = .ok (.iconst (-1), 1) := by decide +kernel
theorem d_Words_kindOf_18 : decode prog_10_method_8_code 18 = .ok (.ireturn, 1) := by decide +kernel
theorem b_Words_kindOf_0 {d : Nat} {x1 : Int32} {h : am_H} {Q : am_Q} (k : m_Words_hasWord d [.ref 27, .int x1] h (fun r hh => am_W (X_Words_kindOf (d + 1)) 5 [some (.ref 27), some (.int x1)] (r.toList ++ []) hh Q)) : am_W (X_Words_kindOf (d + 1)) 0 [some (.ref 27), some (.int x1)] [] h Q :=
  am_aload_n d_Words_kindOf_0 rfl (i := 0) rfl <|
    am_iload_n d_Words_kindOf_1 rfl (i := 1) rfl <|
    am_callV (vs := [.int x1]) (st := []) (k := 27) (ci := 8) rfl d_Words_kindOf_2 rfl rfl w_1168 w_1169 w_1170 w_92 w_1171 p_Words_hasWord (Nat.le_of_ble_eq_true rfl) (Nat.le_of_ble_eq_true rfl) rfl k
theorem b_Words_kindOf_5 {d : Nat} {x1 : Int32} {y0 : Bool} {h : am_H} {Q : am_Q} (kt : (am_b y0) = 0 → am_W (X_Words_kindOf d) 17 [some (.ref 27), some (.int x1)] [] h Q) (kf : ¬ (am_b y0) = 0 → am_W (X_Words_kindOf d) 8 [some (.ref 27), some (.int x1)] [] h Q) : am_W (X_Words_kindOf d) 5 [some (.ref 27), some (.int x1)] [.int (am_b y0)] h Q :=
  am_if_eq (tgt := 17) d_Words_kindOf_5 (by decide) kt kf
theorem b_Words_kindOf_8 {d : Nat} {x1 : Int32} {h : am_H} {Q : am_Q} (q0 : vp_in x1 50) (q : Q (some (.int (h.1 28 x1.toNatClampNeg))) h) : am_W (X_Words_kindOf d) 8 [some (.ref 27), some (.int x1)] [] h Q :=
  am_aload_n d_Words_kindOf_8 rfl (i := 0) rfl <|
    am_getR (ci := 8) (i := 0) rfl rfl rfl (Nat.le_of_ble_eq_true rfl) w_329 d_Words_kindOf_9 <|
    am_iload_n d_Words_kindOf_12 rfl (i := 1) rfl <|
    am_iald rfl q0 d_Words_kindOf_13 <|
    am_goto (tgt := 18) d_Words_kindOf_14 (by decide) <|
    am_iret rfl d_Words_kindOf_18 q
theorem b_Words_kindOf_17 {d : Nat} {x1 : Int32} {h : am_H} {Q : am_Q} (q : Q (some (.int (-1))) h) : am_W (X_Words_kindOf d) 17 [some (.ref 27), some (.int x1)] [] h Q :=
  am_iconst (v := (-1)) d_Words_kindOf_17 (by decide) <|
    am_iret rfl d_Words_kindOf_18 q
theorem t_Words_kindOf_17 {d : Nat} {x1 : Int32} {h : am_H} {Q : am_Q} {res : Int32} (e : f_Words_kindOf_17 h = some res) (q : Q (some (.int res)) h) : am_W (X_Words_kindOf (d + 1)) 17 [some (.ref 27), some (.int x1)] [] h Q :=
  b_Words_kindOf_17 (d := (d + 1)) (q := (am_rIp (v := (-1)) e q))
theorem t_Words_kindOf_8 {d : Nat} {x1 : Int32} {h : am_H} {Q : am_Q} {res : Int32} (e : f_Words_kindOf_8 h x1 = some res) (q : Q (some (.int res)) h) : am_W (X_Words_kindOf (d + 1)) 8 [some (.ref 27), some (.int x1)] [] h Q :=
  b_Words_kindOf_8 (d := (d + 1)) (q0 := (am_okv (am_gd e))) (q := (am_rIp (v := (h.1 28 x1.toNatClampNeg)) (am_ga e) q))
theorem t_Words_kindOf_5 {d : Nat} {x1 : Int32} {y0 : Bool} {h : am_H} {Q : am_Q} {res : Int32} (e : f_Words_kindOf_5 h x1 y0 = some res) (q : Q (some (.int res)) h) : am_W (X_Words_kindOf (d + 1)) 5 [some (.ref 27), some (.int x1)] [.int (am_b y0)] h Q :=
  b_Words_kindOf_5 (d := (d + 1)) (kt := fun c => (t_Words_kindOf_17 (am_iff e (am_bz c)) q)) (kf := fun c => (t_Words_kindOf_8 (am_ift e (am_bn c)) q))
theorem t_Words_kindOf_0 {d : Nat} {x1 : Int32} {h : am_H} {Q : am_Q} {res : Int32} (e : f_Words_kindOf h x1 = some res) (q : Q (some (.int res)) h) : am_W (X_Words_kindOf (d + 1)) 0 [some (.ref 27), some (.int x1)] [] h Q :=
  b_Words_kindOf_0 (d := d) (k := c_Words_hasWord (d := d) rfl (t_Words_kindOf_5 e q))
theorem c_Words_kindOf {d : Nat} {x1 : Int32} {h : am_H} {Q : am_Q} {res : Int32} (e : f_Words_kindOf h x1 = some res) (q : Q (some (.int res)) h) : m_Words_kindOf (d + 1) [.ref 27, .int x1] h Q :=
  e_Words_kindOf (t_Words_kindOf_0 e q)
theorem d_Words_call_0 : decode prog_10_method_13_code 0 = .ok (.iload_n 2, 1) := by decide +kernel
theorem d_Words_call_1 : decode prog_10_method_13_code 1 = .ok (.iload_n 3, 1) := by decide +kernel
theorem d_Words_call_2 : decode prog_10_method_13_code 2 = .ok (.invokestatic 49, 3) := by decide +kernel
theorem d_Words_call_5 : decode prog_10_method_13_code 5 = .ok (.istore 6, 2) := by decide +kernel
theorem d_Words_call_7 : decode prog_10_method_13_code 7 = .ok (.iload 6, 2) := by decide +kernel
theorem d_Words_call_9 : decode prog_10_method_13_code 9 = .ok (.iconst 4, 1) := by decide +kernel
theorem d_Words_call_10 : decode prog_10_method_13_code 10 = .ok (.imul, 1) := by decide +kernel
theorem d_Words_call_11 : decode prog_10_method_13_code 11 = .ok (.iload_n 3, 1) := by decide +kernel
theorem d_Words_call_12 : decode prog_10_method_13_code 12 = .ok (.iadd, 1) := by decide +kernel
theorem d_Words_call_13 : decode prog_10_method_13_code 13 = .ok (.istore 7, 2) := by decide +kernel
theorem d_Words_call_15 : decode prog_10_method_13_code 15 = .ok (.iload 5, 2) := by decide +kernel
theorem d_Words_call_17 : decode prog_10_method_13_code 17 = .ok (.bipush 40, 2) := by decide +kernel
theorem d_Words_call_19 : decode prog_10_method_13_code 19 = .ok (.if_icmp .gt 22, 3) := by decide +kernel
theorem d_Words_call_22 : decode prog_10_method_13_code 22 = .ok (.iload 6, 2) := by decide +kernel
theorem d_Words_call_24 : decode prog_10_method_13_code 24 = .ok (.ifCond .lt 17, 3) := by decide +kernel
theorem d_Words_call_27 : decode prog_10_method_13_code 27 = .ok (.iload 7, 2) := by decide +kernel
theorem d_Words_call_29 : decode prog_10_method_13_code 29 = .ok (.ifCond .lt 12, 3) := by decide +kernel
theorem d_Words_call_32 : decode prog_10_method_13_code 32 = .ok (.iload 7, 2) := by decide +kernel
theorem d_Words_call_34 : decode prog_10_method_13_code 34 = .ok (.getstatic 52, 3) := by decide +kernel
theorem d_Words_call_37 : decode prog_10_method_13_code 37 = .ok (.arraylength, 1) := by decide +kernel
theorem d_Words_call_38 : decode prog_10_method_13_code 38 = .ok (.if_icmp .lt 5, 3) := by decide +kernel
theorem d_Words_call_41 : decode prog_10_method_13_code 41 = .ok (.iconst 0, 1) := by decide +kernel
theorem d_Words_call_42 : decode prog_10_method_13_code 42 = .ok (.ireturn, 1) := by decide +kernel
theorem d_Words_call_43 : decode prog_10_method_13_code 43 = .ok (.aload_n 0, 1) := by decide +kernel
theorem d_Words_call_44 : decode prog_10_method_13_code 44 = .ok (.getstatic 52, 3) := by decide +kernel
theorem d_Words_call_47 : decode prog_10_method_13_code 47 = .ok (.iload 7, 2) := by decide +kernel
theorem d_Words_call_49 : decode prog_10_method_13_code 49 = .ok (.iaload, 1) := by decide +kernel
theorem d_Words_call_50 : decode prog_10_method_13_code 50 = .ok (.invokevirtual 55, 3) := by decide +kernel
theorem d_Words_call_53 : decode prog_10_method_13_code 53 = .ok (.aload_n 0, 1) := by decide +kernel
theorem d_Words_call_54 : decode prog_10_method_13_code 54 = .ok (.getstatic 52, 3) := by decide +kernel
theorem d_Words_call_57 : decode prog_10_method_13_code 57 = .ok (.iload 7, 2) := by decide +kernel
theorem d_Words_call_59 : decode prog_10_method_13_code 59 = .ok (.iaload, 1) := by decide +kernel
theorem d_Words_call_60 : decode prog_10_method_13_code 60 = .ok (.iload_n 1, 1) := by decide +kernel
theorem d_Words_call_61 : decode prog_10_method_13_code 61 = .ok (.iload 6, 2) := by decide +kernel
theorem d_Words_call_63 : decode prog_10_method_13_code 63 = .ok (.iload 4, 2) := by decide +kernel
theorem d_Words_call_65 : decode prog_10_method_13_code 65 = .ok (.iload 5, 2) := by decide +kernel
theorem d_Words_call_67 : decode prog_10_method_13_code 67 = .ok (.iconst 1, 1) := by decide +kernel
theorem d_Words_call_68 : decode prog_10_method_13_code 68 = .ok (.iadd, 1) := by decide +kernel
theorem d_Words_call_69 : decode prog_10_method_13_code 69 = .ok (.invokevirtual 59, 3) := by decide +kernel
theorem d_Words_call_72 : decode prog_10_method_13_code 72 = .ok (.ireturn, 1) := by decide +kernel
theorem b_Words_call_0 {d : Nat} {x1 : Int32} {x2 : Int32} {x3 : Int32} {x4 : Int32} {x5 : Int32} {h : am_H} {Q : am_Q} (k : m_Words_holderOf d [.int x2, .int x3] h (fun r hh => am_W (X_Words_call (d + 1)) 5 [some (.ref 27), some (.int x1), some (.int x2), some (.int x3), some (.int x4), some (.int x5), none, none] (r.toList ++ []) hh Q)) : am_W (X_Words_call (d + 1)) 0 [some (.ref 27), some (.int x1), some (.int x2), some (.int x3), some (.int x4), some (.int x5), none, none] [] h Q :=
  am_iload_n d_Words_call_0 rfl (i := 2) rfl <|
    am_iload_n d_Words_call_1 rfl (i := 3) rfl <|
    am_callS (vs := [.int x2, .int x3]) (st := []) rfl d_Words_call_2 w_1180 w_1181 w_92 w_1182 p_Words_holderOf (Nat.le_of_ble_eq_true rfl) (Nat.le_of_ble_eq_true rfl) rfl k
theorem b_Words_call_5 {d : Nat} {x1 : Int32} {x2 : Int32} {x3 : Int32} {x4 : Int32} {x5 : Int32} {y0 : Int32} {h : am_H} {Q : am_Q} (kt : 40 < x5 → am_W (X_Words_call d) 41 [some (.ref 27), some (.int x1), some (.int x2), some (.int x3), some (.int x4), some (.int x5), some (.int y0), some (.int ((y0 * 4) + x3))] [] h Q) (kf : ¬ 40 < x5 → am_W (X_Words_call d) 22 [some (.ref 27), some (.int x1), some (.int x2), some (.int x3), some (.int x4), some (.int x5), some (.int y0), some (.int ((y0 * 4) + x3))] [] h Q) : am_W (X_Words_call d) 5 [some (.ref 27), some (.int x1), some (.int x2), some (.int x3), some (.int x4), some (.int x5), none, none] [.int y0] h Q :=
  am_istore (ls' := [some (.ref 27), some (.int x1), some (.int x2), some (.int x3), some (.int x4), some (.int x5), some (.int y0), none]) d_Words_call_5 (Nat.le_of_ble_eq_true rfl) rfl <|
    am_iload d_Words_call_7 rfl <|
    am_iconst (v := 4) d_Words_call_9 (by decide) <|
    am_imul d_Words_call_10 <|
    am_iload_n d_Words_call_11 rfl (i := 3) rfl <|
    am_iadd d_Words_call_12 <|
    am_istore (ls' := [some (.ref 27), some (.int x1), some (.int x2), some (.int x3), some (.int x4), some (.int x5), some (.int y0), some (.int ((y0 * 4) + x3))]) d_Words_call_13 (Nat.le_of_ble_eq_true rfl) rfl <|
    am_iload d_Words_call_15 rfl <|
    am_bipush (v := 40) d_Words_call_17 (by decide) <|
    am_icmp_gt (tgt := 41) d_Words_call_19 (by decide) kt kf
theorem b_Words_call_22 {d : Nat} {x1 : Int32} {x2 : Int32} {x3 : Int32} {x4 : Int32} {x5 : Int32} {x6 : Int32} {x7 : Int32} {h : am_H} {Q : am_Q} (kt : x6 < 0 → am_W (X_Words_call d) 41 [some (.ref 27), some (.int x1), some (.int x2), some (.int x3), some (.int x4), some (.int x5), some (.int x6), some (.int x7)] [] h Q) (kf : ¬ x6 < 0 → am_W (X_Words_call d) 27 [some (.ref 27), some (.int x1), some (.int x2), some (.int x3), some (.int x4), some (.int x5), some (.int x6), some (.int x7)] [] h Q) : am_W (X_Words_call d) 22 [some (.ref 27), some (.int x1), some (.int x2), some (.int x3), some (.int x4), some (.int x5), some (.int x6), some (.int x7)] [] h Q :=
  am_iload d_Words_call_22 rfl <|
    am_if_lt (tgt := 41) d_Words_call_24 (by decide) kt kf
theorem b_Words_call_27 {d : Nat} {x1 : Int32} {x2 : Int32} {x3 : Int32} {x4 : Int32} {x5 : Int32} {x6 : Int32} {x7 : Int32} {h : am_H} {Q : am_Q} (kt : x7 < 0 → am_W (X_Words_call d) 41 [some (.ref 27), some (.int x1), some (.int x2), some (.int x3), some (.int x4), some (.int x5), some (.int x6), some (.int x7)] [] h Q) (kf : ¬ x7 < 0 → am_W (X_Words_call d) 32 [some (.ref 27), some (.int x1), some (.int x2), some (.int x3), some (.int x4), some (.int x5), some (.int x6), some (.int x7)] [] h Q) : am_W (X_Words_call d) 27 [some (.ref 27), some (.int x1), some (.int x2), some (.int x3), some (.int x4), some (.int x5), some (.int x6), some (.int x7)] [] h Q :=
  am_iload d_Words_call_27 rfl <|
    am_if_lt (tgt := 41) d_Words_call_29 (by decide) kt kf
theorem b_Words_call_32 {d : Nat} {x1 : Int32} {x2 : Int32} {x3 : Int32} {x4 : Int32} {x5 : Int32} {x6 : Int32} {x7 : Int32} {h : am_H} {Q : am_Q} (kt : x7 < 32 → am_W (X_Words_call d) 43 [some (.ref 27), some (.int x1), some (.int x2), some (.int x3), some (.int x4), some (.int x5), some (.int x6), some (.int x7)] [] h Q) (kf : ¬ x7 < 32 → am_W (X_Words_call d) 41 [some (.ref 27), some (.int x1), some (.int x2), some (.int x3), some (.int x4), some (.int x5), some (.int x6), some (.int x7)] [] h Q) : am_W (X_Words_call d) 32 [some (.ref 27), some (.int x1), some (.int x2), some (.int x3), some (.int x4), some (.int x5), some (.int x6), some (.int x7)] [] h Q :=
  am_iload d_Words_call_32 rfl <|
    am_gets tb_OWN w_1184 d_Words_call_34 <|
    am_tlen (v := 32) tb_OWN (by decide) d_Words_call_37 <|
    am_icmp_lt (tgt := 43) d_Words_call_38 (by decide) kt kf
theorem b_Words_call_41 {d : Nat} {x1 : Int32} {x2 : Int32} {x3 : Int32} {x4 : Int32} {x5 : Int32} {x6 : Int32} {x7 : Int32} {h : am_H} {Q : am_Q} (q : Q (some (.int 0)) h) : am_W (X_Words_call d) 41 [some (.ref 27), some (.int x1), some (.int x2), some (.int x3), some (.int x4), some (.int x5), some (.int x6), some (.int x7)] [] h Q :=
  am_iconst (v := 0) d_Words_call_41 (by decide) <|
    am_iret rfl d_Words_call_42 q
theorem b_Words_call_43 {d : Nat} {x1 : Int32} {x2 : Int32} {x3 : Int32} {x4 : Int32} {x5 : Int32} {x6 : Int32} {x7 : Int32} {h : am_H} {Q : am_Q} (q0 : vp_in x7 32) (k : m_Words_note d [.ref 27, .int (tv_OWN x7)] h (fun r hh => am_W (X_Words_call (d + 1)) 53 [some (.ref 27), some (.int x1), some (.int x2), some (.int x3), some (.int x4), some (.int x5), some (.int x6), some (.int x7)] (r.toList ++ []) hh Q)) : am_W (X_Words_call (d + 1)) 43 [some (.ref 27), some (.int x1), some (.int x2), some (.int x3), some (.int x4), some (.int x5), some (.int x6), some (.int x7)] [] h Q :=
  am_aload_n d_Words_call_43 rfl (i := 0) rfl <|
    am_gets tb_OWN w_1184 d_Words_call_44 <|
    am_iload d_Words_call_47 rfl <|
    am_ti (v := tv_OWN x7) tb_OWN q0 (tv_OWN_ok q0) d_Words_call_49 <|
    am_callV (vs := [.int (tv_OWN x7)]) (st := []) (k := 27) (ci := 8) rfl d_Words_call_50 rfl rfl w_1186 w_1188 w_30 w_92 w_1189 p_Words_note (Nat.le_of_ble_eq_true rfl) (Nat.le_of_ble_eq_true rfl) rfl k
theorem b_Words_call_53 {d : Nat} {x1 : Int32} {x2 : Int32} {x3 : Int32} {x4 : Int32} {x5 : Int32} {x6 : Int32} {x7 : Int32} {h : am_H} {Q : am_Q} (q0 : vp_in x7 32) (k : m_Words_runBody d [.ref 27, .int (tv_OWN x7), .int x1, .int x6, .int x4, .int (x5 + 1)] h (fun r hh => am_W (X_Words_call (d + 1)) 72 [some (.ref 27), some (.int x1), some (.int x2), some (.int x3), some (.int x4), some (.int x5), some (.int x6), some (.int x7)] (r.toList ++ []) hh Q)) : am_W (X_Words_call (d + 1)) 53 [some (.ref 27), some (.int x1), some (.int x2), some (.int x3), some (.int x4), some (.int x5), some (.int x6), some (.int x7)] [] h Q :=
  am_aload_n d_Words_call_53 rfl (i := 0) rfl <|
    am_gets tb_OWN w_1184 d_Words_call_54 <|
    am_iload d_Words_call_57 rfl <|
    am_ti (v := tv_OWN x7) tb_OWN q0 (tv_OWN_ok q0) d_Words_call_59 <|
    am_iload_n d_Words_call_60 rfl (i := 1) rfl <|
    am_iload d_Words_call_61 rfl <|
    am_iload d_Words_call_63 rfl <|
    am_iload d_Words_call_65 rfl <|
    am_iconst (v := 1) d_Words_call_67 (by decide) <|
    am_iadd d_Words_call_68 <|
    am_callV (vs := [.int (tv_OWN x7), .int x1, .int x6, .int x4, .int (x5 + 1)]) (st := []) (k := 27) (ci := 8) rfl d_Words_call_69 rfl rfl w_1190 w_1192 w_31 w_92 w_1193 p_Words_runBody (Nat.le_of_ble_eq_true rfl) (Nat.le_of_ble_eq_true rfl) rfl k
theorem b_Words_call_72 {d : Nat} {x1 : Int32} {x2 : Int32} {x3 : Int32} {x4 : Int32} {x5 : Int32} {x6 : Int32} {x7 : Int32} {y0 : Int32} {h : am_H} {Q : am_Q} (q : Q (some (.int y0)) h) : am_W (X_Words_call d) 72 [some (.ref 27), some (.int x1), some (.int x2), some (.int x3), some (.int x4), some (.int x5), some (.int x6), some (.int x7)] [.int y0] h Q :=
  am_iret rfl d_Words_call_72 q
theorem d_Words_runBody_0 : decode prog_10_method_16_code 0 = .ok (.aload_n 0, 1) := by decide +kernel
theorem d_Words_runBody_1 : decode prog_10_method_16_code 1 = .ok (.iload_n 2, 1) := by decide +kernel
theorem d_Words_runBody_2 : decode prog_10_method_16_code 2 = .ok (.invokevirtual 41, 3) := by decide +kernel
theorem d_Words_runBody_5 : decode prog_10_method_16_code 5 = .ok (.istore 6, 2) := by decide +kernel
theorem d_Words_runBody_7 : decode prog_10_method_16_code 7 = .ok (.iload_n 3, 1) := by decide +kernel
theorem d_Words_runBody_8 : decode prog_10_method_16_code 8 = .ok (.invokestatic 28, 3) := by decide +kernel
theorem d_Words_runBody_11 : decode prog_10_method_16_code 11 = .ok (.ifCond .eq 11, 3) := by decide +kernel
theorem d_Words_runBody_14 : decode prog_10_method_16_code 14 = .ok (.getstatic 25, 3) := by decide +kernel
theorem d_Words_runBody_17 : decode prog_10_method_16_code 17 = .ok (.iload_n 3, 1) := by decide +kernel
theorem d_Words_runBody_18 : decode prog_10_method_16_code 18 = .ok (.iaload, 1) := by decide +kernel
theorem d_Words_runBody_19 : decode prog_10_method_16_code 19 = .ok (.goto 4, 3) := by decide +kernel
theorem d_Words_runBody_22 : decode prog_10_method_16_code 22 = .ok (.iconst (-1), 1) := by decide +kernel
theorem d_Words_runBody_23 : decode prog_10_method_16_code 23 = .ok (.istore 7, 2) := by decide +kernel
theorem d_Words_runBody_25 : decode prog_10_method_16_code 25 = .ok (.iload_n 1, 1) := by decide +kernel
theorem d_Words_runBody_26 : decode prog_10_method_16_code 26 = .ok (.lookupswitch 318 #[(1, 114), (2, 119), (10, 144), (11, 159), (20, 164), (30, 179), (40, 193), (41, 208), (50, 223), (60, 248), (70, 263), (80, 278), (81, 303)], 114) := by decide +kernel
theorem d_Words_runBody_140 : decode prog_10_method_16_code 140 = .ok (.iload 4, 2) := by decide +kernel
theorem d_Words_runBody_142 : decode prog_10_method_16_code 142 = .ok (.iload_n 2, 1) := by decide +kernel
theorem d_Words_runBody_143 : decode prog_10_method_16_code 143 = .ok (.iadd, 1) := by decide +kernel
theorem d_Words_runBody_144 : decode prog_10_method_16_code 144 = .ok (.ireturn, 1) := by decide +kernel
theorem d_Words_runBody_145 : decode prog_10_method_16_code 145 = .ok (.aload_n 0, 1) := by decide +kernel
theorem d_Words_runBody_146 : decode prog_10_method_16_code 146 = .ok (.iload_n 2, 1) := by decide +kernel
theorem d_Words_runBody_147 : decode prog_10_method_16_code 147 = .ok (.iload 6, 2) := by decide +kernel
theorem d_Words_runBody_149 : decode prog_10_method_16_code 149 = .ok (.iconst 1, 1) := by decide +kernel
theorem d_Words_runBody_150 : decode prog_10_method_16_code 150 = .ok (.iload 4, 2) := by decide +kernel
theorem d_Words_runBody_152 : decode prog_10_method_16_code 152 = .ok (.iload 5, 2) := by decide +kernel
theorem d_Words_runBody_154 : decode prog_10_method_16_code 154 = .ok (.invokevirtual 45, 3) := by decide +kernel
theorem d_Words_runBody_157 : decode prog_10_method_16_code 157 = .ok (.aload_n 0, 1) := by decide +kernel
theorem d_Words_runBody_158 : decode prog_10_method_16_code 158 = .ok (.iload_n 2, 1) := by decide +kernel
theorem d_Words_runBody_159 : decode prog_10_method_16_code 159 = .ok (.iload 6, 2) := by decide +kernel
theorem d_Words_runBody_161 : decode prog_10_method_16_code 161 = .ok (.iconst 2, 1) := by decide +kernel
theorem d_Words_runBody_162 : decode prog_10_method_16_code 162 = .ok (.iconst 1, 1) := by decide +kernel
theorem d_Words_runBody_163 : decode prog_10_method_16_code 163 = .ok (.iload 5, 2) := by decide +kernel
theorem d_Words_runBody_165 : decode prog_10_method_16_code 165 = .ok (.invokevirtual 45, 3) := by decide +kernel
theorem d_Words_runBody_168 : decode prog_10_method_16_code 168 = .ok (.isub, 1) := by decide +kernel
theorem d_Words_runBody_169 : decode prog_10_method_16_code 169 = .ok (.ireturn, 1) := by decide +kernel
theorem d_Words_runBody_170 : decode prog_10_method_16_code 170 = .ok (.aload_n 0, 1) := by decide +kernel
theorem d_Words_runBody_171 : decode prog_10_method_16_code 171 = .ok (.iload_n 2, 1) := by decide +kernel
theorem d_Words_runBody_172 : decode prog_10_method_16_code 172 = .ok (.iload 6, 2) := by decide +kernel
theorem d_Words_runBody_174 : decode prog_10_method_16_code 174 = .ok (.iconst 0, 1) := by decide +kernel
theorem d_Words_runBody_175 : decode prog_10_method_16_code 175 = .ok (.iload 4, 2) := by decide +kernel
theorem d_Words_runBody_177 : decode prog_10_method_16_code 177 = .ok (.iload 5, 2) := by decide +kernel
theorem d_Words_runBody_179 : decode prog_10_method_16_code 179 = .ok (.invokevirtual 45, 3) := by decide +kernel
theorem d_Words_runBody_182 : decode prog_10_method_16_code 182 = .ok (.iconst 2, 1) := by decide +kernel
theorem d_Words_runBody_183 : decode prog_10_method_16_code 183 = .ok (.imul, 1) := by decide +kernel
theorem d_Words_runBody_184 : decode prog_10_method_16_code 184 = .ok (.ireturn, 1) := by decide +kernel
theorem d_Words_runBody_185 : decode prog_10_method_16_code 185 = .ok (.iload 4, 2) := by decide +kernel
theorem d_Words_runBody_187 : decode prog_10_method_16_code 187 = .ok (.iload_n 2, 1) := by decide +kernel
theorem d_Words_runBody_188 : decode prog_10_method_16_code 188 = .ok (.ixor, 1) := by decide +kernel
theorem d_Words_runBody_189 : decode prog_10_method_16_code 189 = .ok (.ireturn, 1) := by decide +kernel
theorem d_Words_runBody_190 : decode prog_10_method_16_code 190 = .ok (.aload_n 0, 1) := by decide +kernel
theorem d_Words_runBody_191 : decode prog_10_method_16_code 191 = .ok (.iload_n 2, 1) := by decide +kernel
theorem d_Words_runBody_192 : decode prog_10_method_16_code 192 = .ok (.iload 7, 2) := by decide +kernel
theorem d_Words_runBody_194 : decode prog_10_method_16_code 194 = .ok (.iconst 0, 1) := by decide +kernel
theorem d_Words_runBody_195 : decode prog_10_method_16_code 195 = .ok (.iload 4, 2) := by decide +kernel
theorem d_Words_runBody_197 : decode prog_10_method_16_code 197 = .ok (.iload 5, 2) := by decide +kernel
theorem d_Words_runBody_199 : decode prog_10_method_16_code 199 = .ok (.invokevirtual 45, 3) := by decide +kernel
theorem d_Words_runBody_202 : decode prog_10_method_16_code 202 = .ok (.iconst 3, 1) := by decide +kernel
theorem d_Words_runBody_203 : decode prog_10_method_16_code 203 = .ok (.iadd, 1) := by decide +kernel
theorem d_Words_runBody_204 : decode prog_10_method_16_code 204 = .ok (.ireturn, 1) := by decide +kernel
theorem d_Words_runBody_205 : decode prog_10_method_16_code 205 = .ok (.aload_n 0, 1) := by decide +kernel
theorem d_Words_runBody_206 : decode prog_10_method_16_code 206 = .ok (.iload_n 2, 1) := by decide +kernel
theorem d_Words_runBody_207 : decode prog_10_method_16_code 207 = .ok (.iload 7, 2) := by decide +kernel
theorem d_Words_runBody_209 : decode prog_10_method_16_code 209 = .ok (.iconst 1, 1) := by decide +kernel
theorem d_Words_runBody_210 : decode prog_10_method_16_code 210 = .ok (.iload 4, 2) := by decide +kernel
theorem d_Words_runBody_212 : decode prog_10_method_16_code 212 = .ok (.iload 5, 2) := by decide +kernel
theorem d_Words_runBody_214 : decode prog_10_method_16_code 214 = .ok (.invokevirtual 45, 3) := by decide +kernel
theorem d_Words_runBody_217 : decode prog_10_method_16_code 217 = .ok (.ineg, 1) := by decide +kernel
theorem d_Words_runBody_218 : decode prog_10_method_16_code 218 = .ok (.ireturn, 1) := by decide +kernel
theorem d_Words_runBody_219 : decode prog_10_method_16_code 219 = .ok (.aload_n 0, 1) := by decide +kernel
theorem d_Words_runBody_220 : decode prog_10_method_16_code 220 = .ok (.iload_n 2, 1) := by decide +kernel
theorem d_Words_runBody_221 : decode prog_10_method_16_code 221 = .ok (.iload 7, 2) := by decide +kernel
theorem d_Words_runBody_223 : decode prog_10_method_16_code 223 = .ok (.iconst 2, 1) := by decide +kernel
theorem d_Words_runBody_224 : decode prog_10_method_16_code 224 = .ok (.iload 4, 2) := by decide +kernel
theorem d_Words_runBody_226 : decode prog_10_method_16_code 226 = .ok (.iload 5, 2) := by decide +kernel
theorem d_Words_runBody_228 : decode prog_10_method_16_code 228 = .ok (.invokevirtual 45, 3) := by decide +kernel
theorem d_Words_runBody_231 : decode prog_10_method_16_code 231 = .ok (.iconst 3, 1) := by decide +kernel
theorem d_Words_runBody_232 : decode prog_10_method_16_code 232 = .ok (.imul, 1) := by decide +kernel
theorem d_Words_runBody_233 : decode prog_10_method_16_code 233 = .ok (.ireturn, 1) := by decide +kernel
theorem d_Words_runBody_234 : decode prog_10_method_16_code 234 = .ok (.aload_n 0, 1) := by decide +kernel
theorem d_Words_runBody_235 : decode prog_10_method_16_code 235 = .ok (.iload_n 2, 1) := by decide +kernel
theorem d_Words_runBody_236 : decode prog_10_method_16_code 236 = .ok (.iload 7, 2) := by decide +kernel
theorem d_Words_runBody_238 : decode prog_10_method_16_code 238 = .ok (.iconst 1, 1) := by decide +kernel
theorem d_Words_runBody_239 : decode prog_10_method_16_code 239 = .ok (.iload 4, 2) := by decide +kernel
theorem d_Words_runBody_241 : decode prog_10_method_16_code 241 = .ok (.iconst 1, 1) := by decide +kernel
theorem d_Words_runBody_242 : decode prog_10_method_16_code 242 = .ok (.iadd, 1) := by decide +kernel
theorem d_Words_runBody_243 : decode prog_10_method_16_code 243 = .ok (.iload 5, 2) := by decide +kernel
theorem d_Words_runBody_245 : decode prog_10_method_16_code 245 = .ok (.invokevirtual 45, 3) := by decide +kernel
theorem d_Words_runBody_248 : decode prog_10_method_16_code 248 = .ok (.ireturn, 1) := by decide +kernel
theorem d_Words_runBody_249 : decode prog_10_method_16_code 249 = .ok (.aload_n 0, 1) := by decide +kernel
theorem d_Words_runBody_250 : decode prog_10_method_16_code 250 = .ok (.iload_n 2, 1) := by decide +kernel
theorem d_Words_runBody_251 : decode prog_10_method_16_code 251 = .ok (.iload 7, 2) := by decide +kernel
theorem d_Words_runBody_253 : decode prog_10_method_16_code 253 = .ok (.iconst 2, 1) := by decide +kernel
theorem d_Words_runBody_254 : decode prog_10_method_16_code 254 = .ok (.iload 4, 2) := by decide +kernel
theorem d_Words_runBody_256 : decode prog_10_method_16_code 256 = .ok (.iload 5, 2) := by decide +kernel
theorem d_Words_runBody_258 : decode prog_10_method_16_code 258 = .ok (.invokevirtual 45, 3) := by decide +kernel
theorem d_Words_runBody_261 : decode prog_10_method_16_code 261 = .ok (.aload_n 0, 1) := by decide +kernel
theorem d_Words_runBody_262 : decode prog_10_method_16_code 262 = .ok (.iload_n 2, 1) := by decide +kernel
theorem d_Words_runBody_263 : decode prog_10_method_16_code 263 = .ok (.iload 6, 2) := by decide +kernel
theorem d_Words_runBody_265 : decode prog_10_method_16_code 265 = .ok (.iconst 0, 1) := by decide +kernel
theorem d_Words_runBody_266 : decode prog_10_method_16_code 266 = .ok (.iconst 2, 1) := by decide +kernel
theorem d_Words_runBody_267 : decode prog_10_method_16_code 267 = .ok (.iload 5, 2) := by decide +kernel
theorem d_Words_runBody_269 : decode prog_10_method_16_code 269 = .ok (.invokevirtual 45, 3) := by decide +kernel
theorem d_Words_runBody_272 : decode prog_10_method_16_code 272 = .ok (.isub, 1) := by decide +kernel
theorem d_Words_runBody_273 : decode prog_10_method_16_code 273 = .ok (.ireturn, 1) := by decide +kernel
theorem d_Words_runBody_274 : decode prog_10_method_16_code 274 = .ok (.aload_n 0, 1) := by decide +kernel
theorem d_Words_runBody_275 : decode prog_10_method_16_code 275 = .ok (.iload_n 2, 1) := by decide +kernel
theorem d_Words_runBody_276 : decode prog_10_method_16_code 276 = .ok (.iload 7, 2) := by decide +kernel
theorem d_Words_runBody_278 : decode prog_10_method_16_code 278 = .ok (.iconst 3, 1) := by decide +kernel
theorem d_Words_runBody_279 : decode prog_10_method_16_code 279 = .ok (.iload 4, 2) := by decide +kernel
theorem d_Words_runBody_281 : decode prog_10_method_16_code 281 = .ok (.iload 5, 2) := by decide +kernel
theorem d_Words_runBody_283 : decode prog_10_method_16_code 283 = .ok (.invokevirtual 45, 3) := by decide +kernel
theorem d_Words_runBody_286 : decode prog_10_method_16_code 286 = .ok (.iconst 5, 1) := by decide +kernel
theorem d_Words_runBody_287 : decode prog_10_method_16_code 287 = .ok (.ixor, 1) := by decide +kernel
theorem d_Words_runBody_288 : decode prog_10_method_16_code 288 = .ok (.ireturn, 1) := by decide +kernel
theorem d_Words_runBody_289 : decode prog_10_method_16_code 289 = .ok (.aload_n 0, 1) := by decide +kernel
theorem d_Words_runBody_290 : decode prog_10_method_16_code 290 = .ok (.iload_n 2, 1) := by decide +kernel
theorem d_Words_runBody_291 : decode prog_10_method_16_code 291 = .ok (.iload 7, 2) := by decide +kernel
theorem d_Words_runBody_293 : decode prog_10_method_16_code 293 = .ok (.iconst 0, 1) := by decide +kernel
theorem d_Words_runBody_294 : decode prog_10_method_16_code 294 = .ok (.iload 4, 2) := by decide +kernel
theorem d_Words_runBody_296 : decode prog_10_method_16_code 296 = .ok (.iload 5, 2) := by decide +kernel
theorem d_Words_runBody_298 : decode prog_10_method_16_code 298 = .ok (.invokevirtual 45, 3) := by decide +kernel
theorem d_Words_runBody_301 : decode prog_10_method_16_code 301 = .ok (.iconst 2, 1) := by decide +kernel
theorem d_Words_runBody_302 : decode prog_10_method_16_code 302 = .ok (.imul, 1) := by decide +kernel
theorem d_Words_runBody_303 : decode prog_10_method_16_code 303 = .ok (.ireturn, 1) := by decide +kernel
theorem d_Words_runBody_304 : decode prog_10_method_16_code 304 = .ok (.aload_n 0, 1) := by decide +kernel
theorem d_Words_runBody_305 : decode prog_10_method_16_code 305 = .ok (.iload_n 2, 1) := by decide +kernel
theorem d_Words_runBody_306 : decode prog_10_method_16_code 306 = .ok (.iload 7, 2) := by decide +kernel
theorem d_Words_runBody_308 : decode prog_10_method_16_code 308 = .ok (.iconst 1, 1) := by decide +kernel
theorem d_Words_runBody_309 : decode prog_10_method_16_code 309 = .ok (.iload 4, 2) := by decide +kernel
theorem d_Words_runBody_311 : decode prog_10_method_16_code 311 = .ok (.iload 5, 2) := by decide +kernel
theorem d_Words_runBody_313 : decode prog_10_method_16_code 313 = .ok (.invokevirtual 45, 3) := by decide +kernel
theorem d_Words_runBody_316 : decode prog_10_method_16_code 316 = .ok (.aload_n 0, 1) := by decide +kernel
theorem d_Words_runBody_317 : decode prog_10_method_16_code 317 = .ok (.iload_n 2, 1) := by decide +kernel
theorem d_Words_runBody_318 : decode prog_10_method_16_code 318 = .ok (.iload 6, 2) := by decide +kernel
theorem d_Words_runBody_320 : decode prog_10_method_16_code 320 = .ok (.iconst 2, 1) := by decide +kernel
theorem d_Words_runBody_321 : decode prog_10_method_16_code 321 = .ok (.iconst 2, 1) := by decide +kernel
theorem d_Words_runBody_322 : decode prog_10_method_16_code 322 = .ok (.iload 5, 2) := by decide +kernel
theorem d_Words_runBody_324 : decode prog_10_method_16_code 324 = .ok (.invokevirtual 45, 3) := by decide +kernel
theorem d_Words_runBody_327 : decode prog_10_method_16_code 327 = .ok (.iadd, 1) := by decide +kernel
theorem d_Words_runBody_328 : decode prog_10_method_16_code 328 = .ok (.ireturn, 1) := by decide +kernel
theorem d_Words_runBody_329 : decode prog_10_method_16_code 329 = .ok (.aload_n 0, 1) := by decide +kernel
theorem d_Words_runBody_330 : decode prog_10_method_16_code 330 = .ok (.iload_n 2, 1) := by decide +kernel
theorem d_Words_runBody_331 : decode prog_10_method_16_code 331 = .ok (.iload 7, 2) := by decide +kernel
theorem d_Words_runBody_333 : decode prog_10_method_16_code 333 = .ok (.iconst 3, 1) := by decide +kernel
theorem d_Words_runBody_334 : decode prog_10_method_16_code 334 = .ok (.iload 4, 2) := by decide +kernel
theorem d_Words_runBody_336 : decode prog_10_method_16_code 336 = .ok (.iload 5, 2) := by decide +kernel
theorem d_Words_runBody_338 : decode prog_10_method_16_code 338 = .ok (.invokevirtual 45, 3) := by decide +kernel
theorem d_Words_runBody_341 : decode prog_10_method_16_code 341 = .ok (.iconst 1, 1) := by decide +kernel
theorem d_Words_runBody_342 : decode prog_10_method_16_code 342 = .ok (.isub, 1) := by decide +kernel
theorem d_Words_runBody_343 : decode prog_10_method_16_code 343 = .ok (.ireturn, 1) := by decide +kernel
theorem d_Words_runBody_344 : decode prog_10_method_16_code 344 = .ok (.iconst 0, 1) := by decide +kernel
theorem d_Words_runBody_345 : decode prog_10_method_16_code 345 = .ok (.ireturn, 1) := by decide +kernel
theorem b_Words_runBody_0 {d : Nat} {x1 : Int32} {x2 : Int32} {x3 : Int32} {x4 : Int32} {x5 : Int32} {h : am_H} {Q : am_Q} (k : m_Words_kindOf d [.ref 27, .int x2] h (fun r hh => am_W (X_Words_runBody (d + 1)) 5 [some (.ref 27), some (.int x1), some (.int x2), some (.int x3), some (.int x4), some (.int x5), none, none] (r.toList ++ []) hh Q)) : am_W (X_Words_runBody (d + 1)) 0 [some (.ref 27), some (.int x1), some (.int x2), some (.int x3), some (.int x4), some (.int x5), none, none] [] h Q :=
  am_aload_n d_Words_runBody_0 rfl (i := 0) rfl <|
    am_iload_n d_Words_runBody_1 rfl (i := 2) rfl <|
    am_callV (vs := [.int x2]) (st := []) (k := 27) (ci := 8) rfl d_Words_runBody_2 rfl rfl w_1172 w_1173 w_1174 w_92 w_1175 p_Words_kindOf (Nat.le_of_ble_eq_true rfl) (Nat.le_of_ble_eq_true rfl) rfl k
theorem b_Words_runBody_5 {d : Nat} {x1 : Int32} {x2 : Int32} {x3 : Int32} {x4 : Int32} {x5 : Int32} {y0 : Int32} {h : am_H} {Q : am_Q} (k : m_Words_isKind d [.int x3] h (fun r hh => am_W (X_Words_runBody (d + 1)) 11 [some (.ref 27), some (.int x1), some (.int x2), some (.int x3), some (.int x4), some (.int x5), some (.int y0), none] (r.toList ++ []) hh Q)) : am_W (X_Words_runBody (d + 1)) 5 [some (.ref 27), some (.int x1), some (.int x2), some (.int x3), some (.int x4), some (.int x5), none, none] [.int y0] h Q :=
  am_istore (ls' := [some (.ref 27), some (.int x1), some (.int x2), some (.int x3), some (.int x4), some (.int x5), some (.int y0), none]) d_Words_runBody_5 (Nat.le_of_ble_eq_true rfl) rfl <|
    am_iload_n d_Words_runBody_7 rfl (i := 3) rfl <|
    am_callS (vs := [.int x3]) (st := []) rfl d_Words_runBody_8 w_1183 w_1148 w_92 w_1149 p_Words_isKind (Nat.le_of_ble_eq_true rfl) (Nat.le_of_ble_eq_true rfl) rfl k
theorem b_Words_runBody_11 {d : Nat} {x1 : Int32} {x2 : Int32} {x3 : Int32} {x4 : Int32} {x5 : Int32} {x6 : Int32} {y0 : Bool} {h : am_H} {Q : am_Q} (kt : (am_b y0) = 0 → am_W (X_Words_runBody d) 22 [some (.ref 27), some (.int x1), some (.int x2), some (.int x3), some (.int x4), some (.int x5), some (.int x6), none] [] h Q) (kf : ¬ (am_b y0) = 0 → am_W (X_Words_runBody d) 14 [some (.ref 27), some (.int x1), some (.int x2), some (.int x3), some (.int x4), some (.int x5), some (.int x6), none] [] h Q) : am_W (X_Words_runBody d) 11 [some (.ref 27), some (.int x1), some (.int x2), some (.int x3), some (.int x4), some (.int x5), some (.int x6), none] [.int (am_b y0)] h Q :=
  am_if_eq (tgt := 22) d_Words_runBody_11 (by decide) kt kf
theorem b_Words_runBody_14 {d : Nat} {x1 : Int32} {x2 : Int32} {x3 : Int32} {x4 : Int32} {x5 : Int32} {x6 : Int32} {h : am_H} {Q : am_Q} (q0 : vp_in x3 8) (k : am_W (X_Words_runBody d) 23 [some (.ref 27), some (.int x1), some (.int x2), some (.int x3), some (.int x4), some (.int x5), some (.int x6), none] [.int (tv_ABOVE x3)] h Q) : am_W (X_Words_runBody d) 14 [some (.ref 27), some (.int x1), some (.int x2), some (.int x3), some (.int x4), some (.int x5), some (.int x6), none] [] h Q :=
  am_gets tb_ABOVE w_1150 d_Words_runBody_14 <|
    am_iload_n d_Words_runBody_17 rfl (i := 3) rfl <|
    am_ti (v := tv_ABOVE x3) tb_ABOVE q0 (tv_ABOVE_ok q0) d_Words_runBody_18 <|
    am_goto (tgt := 23) d_Words_runBody_19 (by decide) k
theorem b_Words_runBody_22 {d : Nat} {x1 : Int32} {x2 : Int32} {x3 : Int32} {x4 : Int32} {x5 : Int32} {x6 : Int32} {h : am_H} {Q : am_Q} (k : am_W (X_Words_runBody d) 23 [some (.ref 27), some (.int x1), some (.int x2), some (.int x3), some (.int x4), some (.int x5), some (.int x6), none] [.int (-1)] h Q) : am_W (X_Words_runBody d) 22 [some (.ref 27), some (.int x1), some (.int x2), some (.int x3), some (.int x4), some (.int x5), some (.int x6), none] [] h Q :=
  am_iconst (v := (-1)) d_Words_runBody_22 (by decide) <|
    k
theorem b_Words_runBody_23 {d : Nat} {x1 : Int32} {x2 : Int32} {x3 : Int32} {x4 : Int32} {x5 : Int32} {x6 : Int32} {y0 : Int32} {h : am_H} {Q : am_Q} (k1 : x1 = 1 → am_W (X_Words_runBody d) 140 [some (.ref 27), some (.int x1), some (.int x2), some (.int x3), some (.int x4), some (.int x5), some (.int x6), some (.int y0)] [] h Q) (k2 : x1 = 2 → am_W (X_Words_runBody d) 145 [some (.ref 27), some (.int x1), some (.int x2), some (.int x3), some (.int x4), some (.int x5), some (.int x6), some (.int y0)] [] h Q) (k10 : x1 = 10 → am_W (X_Words_runBody d) 170 [some (.ref 27), some (.int x1), some (.int x2), some (.int x3), some (.int x4), some (.int x5), some (.int x6), some (.int y0)] [] h Q) (k11 : x1 = 11 → am_W (X_Words_runBody d) 185 [some (.ref 27), some (.int x1), some (.int x2), some (.int x3), some (.int x4), some (.int x5), some (.int x6), some (.int y0)] [] h Q) (k20 : x1 = 20 → am_W (X_Words_runBody d) 190 [some (.ref 27), some (.int x1), some (.int x2), some (.int x3), some (.int x4), some (.int x5), some (.int x6), some (.int y0)] [] h Q) (k30 : x1 = 30 → am_W (X_Words_runBody d) 205 [some (.ref 27), some (.int x1), some (.int x2), some (.int x3), some (.int x4), some (.int x5), some (.int x6), some (.int y0)] [] h Q) (k40 : x1 = 40 → am_W (X_Words_runBody d) 219 [some (.ref 27), some (.int x1), some (.int x2), some (.int x3), some (.int x4), some (.int x5), some (.int x6), some (.int y0)] [] h Q) (k41 : x1 = 41 → am_W (X_Words_runBody d) 234 [some (.ref 27), some (.int x1), some (.int x2), some (.int x3), some (.int x4), some (.int x5), some (.int x6), some (.int y0)] [] h Q) (k50 : x1 = 50 → am_W (X_Words_runBody d) 249 [some (.ref 27), some (.int x1), some (.int x2), some (.int x3), some (.int x4), some (.int x5), some (.int x6), some (.int y0)] [] h Q) (k60 : x1 = 60 → am_W (X_Words_runBody d) 274 [some (.ref 27), some (.int x1), some (.int x2), some (.int x3), some (.int x4), some (.int x5), some (.int x6), some (.int y0)] [] h Q) (k70 : x1 = 70 → am_W (X_Words_runBody d) 289 [some (.ref 27), some (.int x1), some (.int x2), some (.int x3), some (.int x4), some (.int x5), some (.int x6), some (.int y0)] [] h Q) (k80 : x1 = 80 → am_W (X_Words_runBody d) 304 [some (.ref 27), some (.int x1), some (.int x2), some (.int x3), some (.int x4), some (.int x5), some (.int x6), some (.int y0)] [] h Q) (k81 : x1 = 81 → am_W (X_Words_runBody d) 329 [some (.ref 27), some (.int x1), some (.int x2), some (.int x3), some (.int x4), some (.int x5), some (.int x6), some (.int y0)] [] h Q) (kd : ¬ x1 = 1 → ¬ x1 = 2 → ¬ x1 = 10 → ¬ x1 = 11 → ¬ x1 = 20 → ¬ x1 = 30 → ¬ x1 = 40 → ¬ x1 = 41 → ¬ x1 = 50 → ¬ x1 = 60 → ¬ x1 = 70 → ¬ x1 = 80 → ¬ x1 = 81 → am_W (X_Words_runBody d) 344 [some (.ref 27), some (.int x1), some (.int x2), some (.int x3), some (.int x4), some (.int x5), some (.int x6), some (.int y0)] [] h Q) : am_W (X_Words_runBody d) 23 [some (.ref 27), some (.int x1), some (.int x2), some (.int x3), some (.int x4), some (.int x5), some (.int x6), none] [.int y0] h Q := by
  refine am_istore (ls' := [some (.ref 27), some (.int x1), some (.int x2), some (.int x3), some (.int x4), some (.int x5), some (.int x6), some (.int y0)]) d_Words_runBody_23 (Nat.le_of_ble_eq_true rfl) rfl ?_
  refine am_iload_n d_Words_runBody_25 rfl (i := 1) rfl ?_
  by_cases e1 : x1 = 1
  · exact am_lookup (tgt := 140) (off := 114) d_Words_runBody_26 (by decide +kernel) (by rw [e1]; decide +kernel) (by decide) (k1 e1)
  by_cases e2 : x1 = 2
  · exact am_lookup (tgt := 145) (off := 119) d_Words_runBody_26 (by decide +kernel) (by rw [e2]; decide +kernel) (by decide) (k2 e2)
  by_cases e3 : x1 = 10
  · exact am_lookup (tgt := 170) (off := 144) d_Words_runBody_26 (by decide +kernel) (by rw [e3]; decide +kernel) (by decide) (k10 e3)
  by_cases e4 : x1 = 11
  · exact am_lookup (tgt := 185) (off := 159) d_Words_runBody_26 (by decide +kernel) (by rw [e4]; decide +kernel) (by decide) (k11 e4)
  by_cases e5 : x1 = 20
  · exact am_lookup (tgt := 190) (off := 164) d_Words_runBody_26 (by decide +kernel) (by rw [e5]; decide +kernel) (by decide) (k20 e5)
  by_cases e6 : x1 = 30
  · exact am_lookup (tgt := 205) (off := 179) d_Words_runBody_26 (by decide +kernel) (by rw [e6]; decide +kernel) (by decide) (k30 e6)
  by_cases e7 : x1 = 40
  · exact am_lookup (tgt := 219) (off := 193) d_Words_runBody_26 (by decide +kernel) (by rw [e7]; decide +kernel) (by decide) (k40 e7)
  by_cases e8 : x1 = 41
  · exact am_lookup (tgt := 234) (off := 208) d_Words_runBody_26 (by decide +kernel) (by rw [e8]; decide +kernel) (by decide) (k41 e8)
  by_cases e9 : x1 = 50
  · exact am_lookup (tgt := 249) (off := 223) d_Words_runBody_26 (by decide +kernel) (by rw [e9]; decide +kernel) (by decide) (k50 e9)
  by_cases e10 : x1 = 60
  · exact am_lookup (tgt := 274) (off := 248) d_Words_runBody_26 (by decide +kernel) (by rw [e10]; decide +kernel) (by decide) (k60 e10)
  by_cases e11 : x1 = 70
  · exact am_lookup (tgt := 289) (off := 263) d_Words_runBody_26 (by decide +kernel) (by rw [e11]; decide +kernel) (by decide) (k70 e11)
  by_cases e12 : x1 = 80
  · exact am_lookup (tgt := 304) (off := 278) d_Words_runBody_26 (by decide +kernel) (by rw [e12]; decide +kernel) (by decide) (k80 e12)
  by_cases e13 : x1 = 81
  · exact am_lookup (tgt := 329) (off := 303) d_Words_runBody_26 (by decide +kernel) (by rw [e13]; decide +kernel) (by decide) (k81 e13)
  refine am_lookup (tgt := 344) (off := 318) d_Words_runBody_26 (by decide +kernel) ?_ (by decide) (kd e1 e2 e3 e4 e5 e6 e7 e8 e9 e10 e11 e12 e13)
  simp only [← Int32.toInt_inj] at e1 e2 e3 e4 e5 e6 e7 e8 e9 e10 e11 e12 e13
  simp only [Int32.reduceToInt] at e1 e2 e3 e4 e5 e6 e7 e8 e9 e10 e11 e12 e13
  simp only [Op.lookupswitch.offset]
  (repeat' split) <;> first | rfl | omega
theorem b_Words_runBody_140 {d : Nat} {x1 : Int32} {x2 : Int32} {x3 : Int32} {x4 : Int32} {x5 : Int32} {x6 : Int32} {x7 : Int32} {h : am_H} {Q : am_Q} (q : Q (some (.int (x4 + x2))) h) : am_W (X_Words_runBody d) 140 [some (.ref 27), some (.int x1), some (.int x2), some (.int x3), some (.int x4), some (.int x5), some (.int x6), some (.int x7)] [] h Q :=
  am_iload d_Words_runBody_140 rfl <|
    am_iload_n d_Words_runBody_142 rfl (i := 2) rfl <|
    am_iadd d_Words_runBody_143 <|
    am_iret rfl d_Words_runBody_144 q
theorem b_Words_runBody_145 {d : Nat} {x1 : Int32} {x2 : Int32} {x3 : Int32} {x4 : Int32} {x5 : Int32} {x6 : Int32} {x7 : Int32} {h : am_H} {Q : am_Q} (k : m_Words_call d [.ref 27, .int x2, .int x6, .int 1, .int x4, .int x5] h (fun r hh => am_W (X_Words_runBody (d + 1)) 157 [some (.ref 27), some (.int x1), some (.int x2), some (.int x3), some (.int x4), some (.int x5), some (.int x6), some (.int x7)] (r.toList ++ []) hh Q)) : am_W (X_Words_runBody (d + 1)) 145 [some (.ref 27), some (.int x1), some (.int x2), some (.int x3), some (.int x4), some (.int x5), some (.int x6), some (.int x7)] [] h Q :=
  am_aload_n d_Words_runBody_145 rfl (i := 0) rfl <|
    am_iload_n d_Words_runBody_146 rfl (i := 2) rfl <|
    am_iload d_Words_runBody_147 rfl <|
    am_iconst (v := 1) d_Words_runBody_149 (by decide) <|
    am_iload d_Words_runBody_150 rfl <|
    am_iload d_Words_runBody_152 rfl <|
    am_callV (vs := [.int x2, .int x6, .int 1, .int x4, .int x5]) (st := []) (k := 27) (ci := 8) rfl d_Words_runBody_154 rfl rfl w_1176 w_1178 w_29 w_92 w_1179 p_Words_call (Nat.le_of_ble_eq_true rfl) (Nat.le_of_ble_eq_true rfl) rfl k
theorem b_Words_runBody_157 {d : Nat} {x1 : Int32} {x2 : Int32} {x3 : Int32} {x4 : Int32} {x5 : Int32} {x6 : Int32} {x7 : Int32} {y0 : Int32} {h : am_H} {Q : am_Q} (k : m_Words_call d [.ref 27, .int x2, .int x6, .int 2, .int 1, .int x5] h (fun r hh => am_W (X_Words_runBody (d + 1)) 168 [some (.ref 27), some (.int x1), some (.int x2), some (.int x3), some (.int x4), some (.int x5), some (.int x6), some (.int x7)] (r.toList ++ [.int y0]) hh Q)) : am_W (X_Words_runBody (d + 1)) 157 [some (.ref 27), some (.int x1), some (.int x2), some (.int x3), some (.int x4), some (.int x5), some (.int x6), some (.int x7)] [.int y0] h Q :=
  am_aload_n d_Words_runBody_157 rfl (i := 0) rfl <|
    am_iload_n d_Words_runBody_158 rfl (i := 2) rfl <|
    am_iload d_Words_runBody_159 rfl <|
    am_iconst (v := 2) d_Words_runBody_161 (by decide) <|
    am_iconst (v := 1) d_Words_runBody_162 (by decide) <|
    am_iload d_Words_runBody_163 rfl <|
    am_callV (vs := [.int x2, .int x6, .int 2, .int 1, .int x5]) (st := [.int y0]) (k := 27) (ci := 8) rfl d_Words_runBody_165 rfl rfl w_1176 w_1178 w_29 w_92 w_1179 p_Words_call (Nat.le_of_ble_eq_true rfl) (Nat.le_of_ble_eq_true rfl) rfl k
theorem b_Words_runBody_168 {d : Nat} {x1 : Int32} {x2 : Int32} {x3 : Int32} {x4 : Int32} {x5 : Int32} {x6 : Int32} {x7 : Int32} {y1 : Int32} {y0 : Int32} {h : am_H} {Q : am_Q} (q : Q (some (.int (y0 - y1))) h) : am_W (X_Words_runBody d) 168 [some (.ref 27), some (.int x1), some (.int x2), some (.int x3), some (.int x4), some (.int x5), some (.int x6), some (.int x7)] [.int y1, .int y0] h Q :=
  am_isub d_Words_runBody_168 <|
    am_iret rfl d_Words_runBody_169 q
theorem b_Words_runBody_170 {d : Nat} {x1 : Int32} {x2 : Int32} {x3 : Int32} {x4 : Int32} {x5 : Int32} {x6 : Int32} {x7 : Int32} {h : am_H} {Q : am_Q} (k : m_Words_call d [.ref 27, .int x2, .int x6, .int 0, .int x4, .int x5] h (fun r hh => am_W (X_Words_runBody (d + 1)) 182 [some (.ref 27), some (.int x1), some (.int x2), some (.int x3), some (.int x4), some (.int x5), some (.int x6), some (.int x7)] (r.toList ++ []) hh Q)) : am_W (X_Words_runBody (d + 1)) 170 [some (.ref 27), some (.int x1), some (.int x2), some (.int x3), some (.int x4), some (.int x5), some (.int x6), some (.int x7)] [] h Q :=
  am_aload_n d_Words_runBody_170 rfl (i := 0) rfl <|
    am_iload_n d_Words_runBody_171 rfl (i := 2) rfl <|
    am_iload d_Words_runBody_172 rfl <|
    am_iconst (v := 0) d_Words_runBody_174 (by decide) <|
    am_iload d_Words_runBody_175 rfl <|
    am_iload d_Words_runBody_177 rfl <|
    am_callV (vs := [.int x2, .int x6, .int 0, .int x4, .int x5]) (st := []) (k := 27) (ci := 8) rfl d_Words_runBody_179 rfl rfl w_1176 w_1178 w_29 w_92 w_1179 p_Words_call (Nat.le_of_ble_eq_true rfl) (Nat.le_of_ble_eq_true rfl) rfl k
theorem b_Words_runBody_182 {d : Nat} {x1 : Int32} {x2 : Int32} {x3 : Int32} {x4 : Int32} {x5 : Int32} {x6 : Int32} {x7 : Int32} {y0 : Int32} {h : am_H} {Q : am_Q} (q : Q (some (.int (y0 * 2))) h) : am_W (X_Words_runBody d) 182 [some (.ref 27), some (.int x1), some (.int x2), some (.int x3), some (.int x4), some (.int x5), some (.int x6), some (.int x7)] [.int y0] h Q :=
  am_iconst (v := 2) d_Words_runBody_182 (by decide) <|
    am_imul d_Words_runBody_183 <|
    am_iret rfl d_Words_runBody_184 q
theorem b_Words_runBody_185 {d : Nat} {x1 : Int32} {x2 : Int32} {x3 : Int32} {x4 : Int32} {x5 : Int32} {x6 : Int32} {x7 : Int32} {h : am_H} {Q : am_Q} (q : Q (some (.int (x4 ^^^ x2))) h) : am_W (X_Words_runBody d) 185 [some (.ref 27), some (.int x1), some (.int x2), some (.int x3), some (.int x4), some (.int x5), some (.int x6), some (.int x7)] [] h Q :=
  am_iload d_Words_runBody_185 rfl <|
    am_iload_n d_Words_runBody_187 rfl (i := 2) rfl <|
    am_ixor d_Words_runBody_188 <|
    am_iret rfl d_Words_runBody_189 q
theorem b_Words_runBody_190 {d : Nat} {x1 : Int32} {x2 : Int32} {x3 : Int32} {x4 : Int32} {x5 : Int32} {x6 : Int32} {x7 : Int32} {h : am_H} {Q : am_Q} (k : m_Words_call d [.ref 27, .int x2, .int x7, .int 0, .int x4, .int x5] h (fun r hh => am_W (X_Words_runBody (d + 1)) 202 [some (.ref 27), some (.int x1), some (.int x2), some (.int x3), some (.int x4), some (.int x5), some (.int x6), some (.int x7)] (r.toList ++ []) hh Q)) : am_W (X_Words_runBody (d + 1)) 190 [some (.ref 27), some (.int x1), some (.int x2), some (.int x3), some (.int x4), some (.int x5), some (.int x6), some (.int x7)] [] h Q :=
  am_aload_n d_Words_runBody_190 rfl (i := 0) rfl <|
    am_iload_n d_Words_runBody_191 rfl (i := 2) rfl <|
    am_iload d_Words_runBody_192 rfl <|
    am_iconst (v := 0) d_Words_runBody_194 (by decide) <|
    am_iload d_Words_runBody_195 rfl <|
    am_iload d_Words_runBody_197 rfl <|
    am_callV (vs := [.int x2, .int x7, .int 0, .int x4, .int x5]) (st := []) (k := 27) (ci := 8) rfl d_Words_runBody_199 rfl rfl w_1176 w_1178 w_29 w_92 w_1179 p_Words_call (Nat.le_of_ble_eq_true rfl) (Nat.le_of_ble_eq_true rfl) rfl k
theorem b_Words_runBody_202 {d : Nat} {x1 : Int32} {x2 : Int32} {x3 : Int32} {x4 : Int32} {x5 : Int32} {x6 : Int32} {x7 : Int32} {y0 : Int32} {h : am_H} {Q : am_Q} (q : Q (some (.int (y0 + 3))) h) : am_W (X_Words_runBody d) 202 [some (.ref 27), some (.int x1), some (.int x2), some (.int x3), some (.int x4), some (.int x5), some (.int x6), some (.int x7)] [.int y0] h Q :=
  am_iconst (v := 3) d_Words_runBody_202 (by decide) <|
    am_iadd d_Words_runBody_203 <|
    am_iret rfl d_Words_runBody_204 q
theorem b_Words_runBody_205 {d : Nat} {x1 : Int32} {x2 : Int32} {x3 : Int32} {x4 : Int32} {x5 : Int32} {x6 : Int32} {x7 : Int32} {h : am_H} {Q : am_Q} (k : m_Words_call d [.ref 27, .int x2, .int x7, .int 1, .int x4, .int x5] h (fun r hh => am_W (X_Words_runBody (d + 1)) 217 [some (.ref 27), some (.int x1), some (.int x2), some (.int x3), some (.int x4), some (.int x5), some (.int x6), some (.int x7)] (r.toList ++ []) hh Q)) : am_W (X_Words_runBody (d + 1)) 205 [some (.ref 27), some (.int x1), some (.int x2), some (.int x3), some (.int x4), some (.int x5), some (.int x6), some (.int x7)] [] h Q :=
  am_aload_n d_Words_runBody_205 rfl (i := 0) rfl <|
    am_iload_n d_Words_runBody_206 rfl (i := 2) rfl <|
    am_iload d_Words_runBody_207 rfl <|
    am_iconst (v := 1) d_Words_runBody_209 (by decide) <|
    am_iload d_Words_runBody_210 rfl <|
    am_iload d_Words_runBody_212 rfl <|
    am_callV (vs := [.int x2, .int x7, .int 1, .int x4, .int x5]) (st := []) (k := 27) (ci := 8) rfl d_Words_runBody_214 rfl rfl w_1176 w_1178 w_29 w_92 w_1179 p_Words_call (Nat.le_of_ble_eq_true rfl) (Nat.le_of_ble_eq_true rfl) rfl k
theorem b_Words_runBody_217 {d : Nat} {x1 : Int32} {x2 : Int32} {x3 : Int32} {x4 : Int32} {x5 : Int32} {x6 : Int32} {x7 : Int32} {y0 : Int32} {h : am_H} {Q : am_Q} (q : Q (some (.int (-y0))) h) : am_W (X_Words_runBody d) 217 [some (.ref 27), some (.int x1), some (.int x2), some (.int x3), some (.int x4), some (.int x5), some (.int x6), some (.int x7)] [.int y0] h Q :=
  am_ineg d_Words_runBody_217 <|
    am_iret rfl d_Words_runBody_218 q
theorem b_Words_runBody_219 {d : Nat} {x1 : Int32} {x2 : Int32} {x3 : Int32} {x4 : Int32} {x5 : Int32} {x6 : Int32} {x7 : Int32} {h : am_H} {Q : am_Q} (k : m_Words_call d [.ref 27, .int x2, .int x7, .int 2, .int x4, .int x5] h (fun r hh => am_W (X_Words_runBody (d + 1)) 231 [some (.ref 27), some (.int x1), some (.int x2), some (.int x3), some (.int x4), some (.int x5), some (.int x6), some (.int x7)] (r.toList ++ []) hh Q)) : am_W (X_Words_runBody (d + 1)) 219 [some (.ref 27), some (.int x1), some (.int x2), some (.int x3), some (.int x4), some (.int x5), some (.int x6), some (.int x7)] [] h Q :=
  am_aload_n d_Words_runBody_219 rfl (i := 0) rfl <|
    am_iload_n d_Words_runBody_220 rfl (i := 2) rfl <|
    am_iload d_Words_runBody_221 rfl <|
    am_iconst (v := 2) d_Words_runBody_223 (by decide) <|
    am_iload d_Words_runBody_224 rfl <|
    am_iload d_Words_runBody_226 rfl <|
    am_callV (vs := [.int x2, .int x7, .int 2, .int x4, .int x5]) (st := []) (k := 27) (ci := 8) rfl d_Words_runBody_228 rfl rfl w_1176 w_1178 w_29 w_92 w_1179 p_Words_call (Nat.le_of_ble_eq_true rfl) (Nat.le_of_ble_eq_true rfl) rfl k
theorem b_Words_runBody_231 {d : Nat} {x1 : Int32} {x2 : Int32} {x3 : Int32} {x4 : Int32} {x5 : Int32} {x6 : Int32} {x7 : Int32} {y0 : Int32} {h : am_H} {Q : am_Q} (q : Q (some (.int (y0 * 3))) h) : am_W (X_Words_runBody d) 231 [some (.ref 27), some (.int x1), some (.int x2), some (.int x3), some (.int x4), some (.int x5), some (.int x6), some (.int x7)] [.int y0] h Q :=
  am_iconst (v := 3) d_Words_runBody_231 (by decide) <|
    am_imul d_Words_runBody_232 <|
    am_iret rfl d_Words_runBody_233 q
theorem b_Words_runBody_234 {d : Nat} {x1 : Int32} {x2 : Int32} {x3 : Int32} {x4 : Int32} {x5 : Int32} {x6 : Int32} {x7 : Int32} {h : am_H} {Q : am_Q} (k : m_Words_call d [.ref 27, .int x2, .int x7, .int 1, .int (x4 + 1), .int x5] h (fun r hh => am_W (X_Words_runBody (d + 1)) 248 [some (.ref 27), some (.int x1), some (.int x2), some (.int x3), some (.int x4), some (.int x5), some (.int x6), some (.int x7)] (r.toList ++ []) hh Q)) : am_W (X_Words_runBody (d + 1)) 234 [some (.ref 27), some (.int x1), some (.int x2), some (.int x3), some (.int x4), some (.int x5), some (.int x6), some (.int x7)] [] h Q :=
  am_aload_n d_Words_runBody_234 rfl (i := 0) rfl <|
    am_iload_n d_Words_runBody_235 rfl (i := 2) rfl <|
    am_iload d_Words_runBody_236 rfl <|
    am_iconst (v := 1) d_Words_runBody_238 (by decide) <|
    am_iload d_Words_runBody_239 rfl <|
    am_iconst (v := 1) d_Words_runBody_241 (by decide) <|
    am_iadd d_Words_runBody_242 <|
    am_iload d_Words_runBody_243 rfl <|
    am_callV (vs := [.int x2, .int x7, .int 1, .int (x4 + 1), .int x5]) (st := []) (k := 27) (ci := 8) rfl d_Words_runBody_245 rfl rfl w_1176 w_1178 w_29 w_92 w_1179 p_Words_call (Nat.le_of_ble_eq_true rfl) (Nat.le_of_ble_eq_true rfl) rfl k
theorem b_Words_runBody_248 {d : Nat} {x1 : Int32} {x2 : Int32} {x3 : Int32} {x4 : Int32} {x5 : Int32} {x6 : Int32} {x7 : Int32} {y0 : Int32} {h : am_H} {Q : am_Q} (q : Q (some (.int y0)) h) : am_W (X_Words_runBody d) 248 [some (.ref 27), some (.int x1), some (.int x2), some (.int x3), some (.int x4), some (.int x5), some (.int x6), some (.int x7)] [.int y0] h Q :=
  am_iret rfl d_Words_runBody_248 q
theorem b_Words_runBody_249 {d : Nat} {x1 : Int32} {x2 : Int32} {x3 : Int32} {x4 : Int32} {x5 : Int32} {x6 : Int32} {x7 : Int32} {h : am_H} {Q : am_Q} (k : m_Words_call d [.ref 27, .int x2, .int x7, .int 2, .int x4, .int x5] h (fun r hh => am_W (X_Words_runBody (d + 1)) 261 [some (.ref 27), some (.int x1), some (.int x2), some (.int x3), some (.int x4), some (.int x5), some (.int x6), some (.int x7)] (r.toList ++ []) hh Q)) : am_W (X_Words_runBody (d + 1)) 249 [some (.ref 27), some (.int x1), some (.int x2), some (.int x3), some (.int x4), some (.int x5), some (.int x6), some (.int x7)] [] h Q :=
  am_aload_n d_Words_runBody_249 rfl (i := 0) rfl <|
    am_iload_n d_Words_runBody_250 rfl (i := 2) rfl <|
    am_iload d_Words_runBody_251 rfl <|
    am_iconst (v := 2) d_Words_runBody_253 (by decide) <|
    am_iload d_Words_runBody_254 rfl <|
    am_iload d_Words_runBody_256 rfl <|
    am_callV (vs := [.int x2, .int x7, .int 2, .int x4, .int x5]) (st := []) (k := 27) (ci := 8) rfl d_Words_runBody_258 rfl rfl w_1176 w_1178 w_29 w_92 w_1179 p_Words_call (Nat.le_of_ble_eq_true rfl) (Nat.le_of_ble_eq_true rfl) rfl k
theorem b_Words_runBody_261 {d : Nat} {x1 : Int32} {x2 : Int32} {x3 : Int32} {x4 : Int32} {x5 : Int32} {x6 : Int32} {x7 : Int32} {y0 : Int32} {h : am_H} {Q : am_Q} (k : m_Words_call d [.ref 27, .int x2, .int x6, .int 0, .int 2, .int x5] h (fun r hh => am_W (X_Words_runBody (d + 1)) 272 [some (.ref 27), some (.int x1), some (.int x2), some (.int x3), some (.int x4), some (.int x5), some (.int x6), some (.int x7)] (r.toList ++ [.int y0]) hh Q)) : am_W (X_Words_runBody (d + 1)) 261 [some (.ref 27), some (.int x1), some (.int x2), some (.int x3), some (.int x4), some (.int x5), some (.int x6), some (.int x7)] [.int y0] h Q :=
  am_aload_n d_Words_runBody_261 rfl (i := 0) rfl <|
    am_iload_n d_Words_runBody_262 rfl (i := 2) rfl <|
    am_iload d_Words_runBody_263 rfl <|
    am_iconst (v := 0) d_Words_runBody_265 (by decide) <|
    am_iconst (v := 2) d_Words_runBody_266 (by decide) <|
    am_iload d_Words_runBody_267 rfl <|
    am_callV (vs := [.int x2, .int x6, .int 0, .int 2, .int x5]) (st := [.int y0]) (k := 27) (ci := 8) rfl d_Words_runBody_269 rfl rfl w_1176 w_1178 w_29 w_92 w_1179 p_Words_call (Nat.le_of_ble_eq_true rfl) (Nat.le_of_ble_eq_true rfl) rfl k
theorem b_Words_runBody_272 {d : Nat} {x1 : Int32} {x2 : Int32} {x3 : Int32} {x4 : Int32} {x5 : Int32} {x6 : Int32} {x7 : Int32} {y1 : Int32} {y0 : Int32} {h : am_H} {Q : am_Q} (q : Q (some (.int (y0 - y1))) h) : am_W (X_Words_runBody d) 272 [some (.ref 27), some (.int x1), some (.int x2), some (.int x3), some (.int x4), some (.int x5), some (.int x6), some (.int x7)] [.int y1, .int y0] h Q :=
  am_isub d_Words_runBody_272 <|
    am_iret rfl d_Words_runBody_273 q
theorem b_Words_runBody_274 {d : Nat} {x1 : Int32} {x2 : Int32} {x3 : Int32} {x4 : Int32} {x5 : Int32} {x6 : Int32} {x7 : Int32} {h : am_H} {Q : am_Q} (k : m_Words_call d [.ref 27, .int x2, .int x7, .int 3, .int x4, .int x5] h (fun r hh => am_W (X_Words_runBody (d + 1)) 286 [some (.ref 27), some (.int x1), some (.int x2), some (.int x3), some (.int x4), some (.int x5), some (.int x6), some (.int x7)] (r.toList ++ []) hh Q)) : am_W (X_Words_runBody (d + 1)) 274 [some (.ref 27), some (.int x1), some (.int x2), some (.int x3), some (.int x4), some (.int x5), some (.int x6), some (.int x7)] [] h Q :=
  am_aload_n d_Words_runBody_274 rfl (i := 0) rfl <|
    am_iload_n d_Words_runBody_275 rfl (i := 2) rfl <|
    am_iload d_Words_runBody_276 rfl <|
    am_iconst (v := 3) d_Words_runBody_278 (by decide) <|
    am_iload d_Words_runBody_279 rfl <|
    am_iload d_Words_runBody_281 rfl <|
    am_callV (vs := [.int x2, .int x7, .int 3, .int x4, .int x5]) (st := []) (k := 27) (ci := 8) rfl d_Words_runBody_283 rfl rfl w_1176 w_1178 w_29 w_92 w_1179 p_Words_call (Nat.le_of_ble_eq_true rfl) (Nat.le_of_ble_eq_true rfl) rfl k
theorem b_Words_runBody_286 {d : Nat} {x1 : Int32} {x2 : Int32} {x3 : Int32} {x4 : Int32} {x5 : Int32} {x6 : Int32} {x7 : Int32} {y0 : Int32} {h : am_H} {Q : am_Q} (q : Q (some (.int (y0 ^^^ 5))) h) : am_W (X_Words_runBody d) 286 [some (.ref 27), some (.int x1), some (.int x2), some (.int x3), some (.int x4), some (.int x5), some (.int x6), some (.int x7)] [.int y0] h Q :=
  am_iconst (v := 5) d_Words_runBody_286 (by decide) <|
    am_ixor d_Words_runBody_287 <|
    am_iret rfl d_Words_runBody_288 q
theorem b_Words_runBody_289 {d : Nat} {x1 : Int32} {x2 : Int32} {x3 : Int32} {x4 : Int32} {x5 : Int32} {x6 : Int32} {x7 : Int32} {h : am_H} {Q : am_Q} (k : m_Words_call d [.ref 27, .int x2, .int x7, .int 0, .int x4, .int x5] h (fun r hh => am_W (X_Words_runBody (d + 1)) 301 [some (.ref 27), some (.int x1), some (.int x2), some (.int x3), some (.int x4), some (.int x5), some (.int x6), some (.int x7)] (r.toList ++ []) hh Q)) : am_W (X_Words_runBody (d + 1)) 289 [some (.ref 27), some (.int x1), some (.int x2), some (.int x3), some (.int x4), some (.int x5), some (.int x6), some (.int x7)] [] h Q :=
  am_aload_n d_Words_runBody_289 rfl (i := 0) rfl <|
    am_iload_n d_Words_runBody_290 rfl (i := 2) rfl <|
    am_iload d_Words_runBody_291 rfl <|
    am_iconst (v := 0) d_Words_runBody_293 (by decide) <|
    am_iload d_Words_runBody_294 rfl <|
    am_iload d_Words_runBody_296 rfl <|
    am_callV (vs := [.int x2, .int x7, .int 0, .int x4, .int x5]) (st := []) (k := 27) (ci := 8) rfl d_Words_runBody_298 rfl rfl w_1176 w_1178 w_29 w_92 w_1179 p_Words_call (Nat.le_of_ble_eq_true rfl) (Nat.le_of_ble_eq_true rfl) rfl k
theorem b_Words_runBody_301 {d : Nat} {x1 : Int32} {x2 : Int32} {x3 : Int32} {x4 : Int32} {x5 : Int32} {x6 : Int32} {x7 : Int32} {y0 : Int32} {h : am_H} {Q : am_Q} (q : Q (some (.int (y0 * 2))) h) : am_W (X_Words_runBody d) 301 [some (.ref 27), some (.int x1), some (.int x2), some (.int x3), some (.int x4), some (.int x5), some (.int x6), some (.int x7)] [.int y0] h Q :=
  am_iconst (v := 2) d_Words_runBody_301 (by decide) <|
    am_imul d_Words_runBody_302 <|
    am_iret rfl d_Words_runBody_303 q
theorem b_Words_runBody_304 {d : Nat} {x1 : Int32} {x2 : Int32} {x3 : Int32} {x4 : Int32} {x5 : Int32} {x6 : Int32} {x7 : Int32} {h : am_H} {Q : am_Q} (k : m_Words_call d [.ref 27, .int x2, .int x7, .int 1, .int x4, .int x5] h (fun r hh => am_W (X_Words_runBody (d + 1)) 316 [some (.ref 27), some (.int x1), some (.int x2), some (.int x3), some (.int x4), some (.int x5), some (.int x6), some (.int x7)] (r.toList ++ []) hh Q)) : am_W (X_Words_runBody (d + 1)) 304 [some (.ref 27), some (.int x1), some (.int x2), some (.int x3), some (.int x4), some (.int x5), some (.int x6), some (.int x7)] [] h Q :=
  am_aload_n d_Words_runBody_304 rfl (i := 0) rfl <|
    am_iload_n d_Words_runBody_305 rfl (i := 2) rfl <|
    am_iload d_Words_runBody_306 rfl <|
    am_iconst (v := 1) d_Words_runBody_308 (by decide) <|
    am_iload d_Words_runBody_309 rfl <|
    am_iload d_Words_runBody_311 rfl <|
    am_callV (vs := [.int x2, .int x7, .int 1, .int x4, .int x5]) (st := []) (k := 27) (ci := 8) rfl d_Words_runBody_313 rfl rfl w_1176 w_1178 w_29 w_92 w_1179 p_Words_call (Nat.le_of_ble_eq_true rfl) (Nat.le_of_ble_eq_true rfl) rfl k
theorem b_Words_runBody_316 {d : Nat} {x1 : Int32} {x2 : Int32} {x3 : Int32} {x4 : Int32} {x5 : Int32} {x6 : Int32} {x7 : Int32} {y0 : Int32} {h : am_H} {Q : am_Q} (k : m_Words_call d [.ref 27, .int x2, .int x6, .int 2, .int 2, .int x5] h (fun r hh => am_W (X_Words_runBody (d + 1)) 327 [some (.ref 27), some (.int x1), some (.int x2), some (.int x3), some (.int x4), some (.int x5), some (.int x6), some (.int x7)] (r.toList ++ [.int y0]) hh Q)) : am_W (X_Words_runBody (d + 1)) 316 [some (.ref 27), some (.int x1), some (.int x2), some (.int x3), some (.int x4), some (.int x5), some (.int x6), some (.int x7)] [.int y0] h Q :=
  am_aload_n d_Words_runBody_316 rfl (i := 0) rfl <|
    am_iload_n d_Words_runBody_317 rfl (i := 2) rfl <|
    am_iload d_Words_runBody_318 rfl <|
    am_iconst (v := 2) d_Words_runBody_320 (by decide) <|
    am_iconst (v := 2) d_Words_runBody_321 (by decide) <|
    am_iload d_Words_runBody_322 rfl <|
    am_callV (vs := [.int x2, .int x6, .int 2, .int 2, .int x5]) (st := [.int y0]) (k := 27) (ci := 8) rfl d_Words_runBody_324 rfl rfl w_1176 w_1178 w_29 w_92 w_1179 p_Words_call (Nat.le_of_ble_eq_true rfl) (Nat.le_of_ble_eq_true rfl) rfl k
theorem b_Words_runBody_327 {d : Nat} {x1 : Int32} {x2 : Int32} {x3 : Int32} {x4 : Int32} {x5 : Int32} {x6 : Int32} {x7 : Int32} {y1 : Int32} {y0 : Int32} {h : am_H} {Q : am_Q} (q : Q (some (.int (y0 + y1))) h) : am_W (X_Words_runBody d) 327 [some (.ref 27), some (.int x1), some (.int x2), some (.int x3), some (.int x4), some (.int x5), some (.int x6), some (.int x7)] [.int y1, .int y0] h Q :=
  am_iadd d_Words_runBody_327 <|
    am_iret rfl d_Words_runBody_328 q
theorem b_Words_runBody_329 {d : Nat} {x1 : Int32} {x2 : Int32} {x3 : Int32} {x4 : Int32} {x5 : Int32} {x6 : Int32} {x7 : Int32} {h : am_H} {Q : am_Q} (k : m_Words_call d [.ref 27, .int x2, .int x7, .int 3, .int x4, .int x5] h (fun r hh => am_W (X_Words_runBody (d + 1)) 341 [some (.ref 27), some (.int x1), some (.int x2), some (.int x3), some (.int x4), some (.int x5), some (.int x6), some (.int x7)] (r.toList ++ []) hh Q)) : am_W (X_Words_runBody (d + 1)) 329 [some (.ref 27), some (.int x1), some (.int x2), some (.int x3), some (.int x4), some (.int x5), some (.int x6), some (.int x7)] [] h Q :=
  am_aload_n d_Words_runBody_329 rfl (i := 0) rfl <|
    am_iload_n d_Words_runBody_330 rfl (i := 2) rfl <|
    am_iload d_Words_runBody_331 rfl <|
    am_iconst (v := 3) d_Words_runBody_333 (by decide) <|
    am_iload d_Words_runBody_334 rfl <|
    am_iload d_Words_runBody_336 rfl <|
    am_callV (vs := [.int x2, .int x7, .int 3, .int x4, .int x5]) (st := []) (k := 27) (ci := 8) rfl d_Words_runBody_338 rfl rfl w_1176 w_1178 w_29 w_92 w_1179 p_Words_call (Nat.le_of_ble_eq_true rfl) (Nat.le_of_ble_eq_true rfl) rfl k
theorem b_Words_runBody_341 {d : Nat} {x1 : Int32} {x2 : Int32} {x3 : Int32} {x4 : Int32} {x5 : Int32} {x6 : Int32} {x7 : Int32} {y0 : Int32} {h : am_H} {Q : am_Q} (q : Q (some (.int (y0 - 1))) h) : am_W (X_Words_runBody d) 341 [some (.ref 27), some (.int x1), some (.int x2), some (.int x3), some (.int x4), some (.int x5), some (.int x6), some (.int x7)] [.int y0] h Q :=
  am_iconst (v := 1) d_Words_runBody_341 (by decide) <|
    am_isub d_Words_runBody_342 <|
    am_iret rfl d_Words_runBody_343 q
theorem b_Words_runBody_344 {d : Nat} {x1 : Int32} {x2 : Int32} {x3 : Int32} {x4 : Int32} {x5 : Int32} {x6 : Int32} {x7 : Int32} {h : am_H} {Q : am_Q} (q : Q (some (.int 0)) h) : am_W (X_Words_runBody d) 344 [some (.ref 27), some (.int x1), some (.int x2), some (.int x3), some (.int x4), some (.int x5), some (.int x6), some (.int x7)] [] h Q :=
  am_iconst (v := 0) d_Words_runBody_344 (by decide) <|
    am_iret rfl d_Words_runBody_345 q
theorem t_Words_call_41 {d : Nat} {rc : rc_Words_call} {x1 : Int32} {x2 : Int32} {x3 : Int32} {x4 : Int32} {x5 : Int32} {x6 : Int32} {x7 : Int32} {h : am_H} {Q : am_Q} {res : Int32 × am_H} (hr0 : ∀ {x1 : Int32} {x2 : Int32} {x3 : Int32} {x4 : Int32} {x5 : Int32} {h : am_H} {Q : am_Q} {res : Int32 × am_H}, rc.1 h x1 x2 x3 x4 x5 = some res → Q (some (.int res.1)) res.2 → m_Words_call (d + 1) [.ref 27, .int x1, .int x2, .int x3, .int x4, .int x5] h Q) (hr1 : ∀ {x1 : Int32} {x2 : Int32} {x3 : Int32} {x4 : Int32} {x5 : Int32} {h : am_H} {Q : am_Q} {res : Int32 × am_H}, rc.2 h x1 x2 x3 x4 x5 = some res → Q (some (.int res.1)) res.2 → m_Words_runBody (d + 1) [.ref 27, .int x1, .int x2, .int x3, .int x4, .int x5] h Q) (e : f_Words_call_41 rc h = some res) (q : Q (some (.int res.1)) res.2) : am_W (X_Words_call (d + 1 + 1)) 41 [some (.ref 27), some (.int x1), some (.int x2), some (.int x3), some (.int x4), some (.int x5), some (.int x6), some (.int x7)] [] h Q :=
  b_Words_call_41 (d := (d + 1 + 1)) (q := (am_rIpi (v := 0) e q))
theorem t_Words_call_72 {d : Nat} {rc : rc_Words_call} {x1 : Int32} {x2 : Int32} {x3 : Int32} {x4 : Int32} {x5 : Int32} {x6 : Int32} {x7 : Int32} {y0 : Int32} {h : am_H} {Q : am_Q} {res : Int32 × am_H} (hr0 : ∀ {x1 : Int32} {x2 : Int32} {x3 : Int32} {x4 : Int32} {x5 : Int32} {h : am_H} {Q : am_Q} {res : Int32 × am_H}, rc.1 h x1 x2 x3 x4 x5 = some res → Q (some (.int res.1)) res.2 → m_Words_call (d + 1) [.ref 27, .int x1, .int x2, .int x3, .int x4, .int x5] h Q) (hr1 : ∀ {x1 : Int32} {x2 : Int32} {x3 : Int32} {x4 : Int32} {x5 : Int32} {h : am_H} {Q : am_Q} {res : Int32 × am_H}, rc.2 h x1 x2 x3 x4 x5 = some res → Q (some (.int res.1)) res.2 → m_Words_runBody (d + 1) [.ref 27, .int x1, .int x2, .int x3, .int x4, .int x5] h Q) (e : f_Words_call_72 rc h y0 = some res) (q : Q (some (.int res.1)) res.2) : am_W (X_Words_call (d + 1 + 1)) 72 [some (.ref 27), some (.int x1), some (.int x2), some (.int x3), some (.int x4), some (.int x5), some (.int x6), some (.int x7)] [.int y0] h Q :=
  b_Words_call_72 (d := (d + 1 + 1)) (q := (am_rIpi (v := y0) e q))
theorem t_Words_call_53 {d : Nat} {rc : rc_Words_call} {x1 : Int32} {x2 : Int32} {x3 : Int32} {x4 : Int32} {x5 : Int32} {x6 : Int32} {x7 : Int32} {h : am_H} {Q : am_Q} {res : Int32 × am_H} (hr0 : ∀ {x1 : Int32} {x2 : Int32} {x3 : Int32} {x4 : Int32} {x5 : Int32} {h : am_H} {Q : am_Q} {res : Int32 × am_H}, rc.1 h x1 x2 x3 x4 x5 = some res → Q (some (.int res.1)) res.2 → m_Words_call (d + 1) [.ref 27, .int x1, .int x2, .int x3, .int x4, .int x5] h Q) (hr1 : ∀ {x1 : Int32} {x2 : Int32} {x3 : Int32} {x4 : Int32} {x5 : Int32} {h : am_H} {Q : am_Q} {res : Int32 × am_H}, rc.2 h x1 x2 x3 x4 x5 = some res → Q (some (.int res.1)) res.2 → m_Words_runBody (d + 1) [.ref 27, .int x1, .int x2, .int x3, .int x4, .int x5] h Q) (e : f_Words_call_53 rc h x1 x4 x5 x6 x7 = some res) (q : Q (some (.int res.1)) res.2) : am_W (X_Words_call (d + 1 + 1)) 53 [some (.ref 27), some (.int x1), some (.int x2), some (.int x3), some (.int x4), some (.int x5), some (.int x6), some (.int x7)] [] h Q :=
  (am_bd (am_ga e)).elim fun p hp => b_Words_call_53 (d := (d + 1)) (q0 := (am_okv (am_gd e))) (k := hr1 hp.1 (t_Words_call_72 hr0 hr1 hp.2 q))
theorem t_Words_call_43 {d : Nat} {rc : rc_Words_call} {x1 : Int32} {x2 : Int32} {x3 : Int32} {x4 : Int32} {x5 : Int32} {x6 : Int32} {x7 : Int32} {h : am_H} {Q : am_Q} {res : Int32 × am_H} (hr0 : ∀ {x1 : Int32} {x2 : Int32} {x3 : Int32} {x4 : Int32} {x5 : Int32} {h : am_H} {Q : am_Q} {res : Int32 × am_H}, rc.1 h x1 x2 x3 x4 x5 = some res → Q (some (.int res.1)) res.2 → m_Words_call (d + 1) [.ref 27, .int x1, .int x2, .int x3, .int x4, .int x5] h Q) (hr1 : ∀ {x1 : Int32} {x2 : Int32} {x3 : Int32} {x4 : Int32} {x5 : Int32} {h : am_H} {Q : am_Q} {res : Int32 × am_H}, rc.2 h x1 x2 x3 x4 x5 = some res → Q (some (.int res.1)) res.2 → m_Words_runBody (d + 1) [.ref 27, .int x1, .int x2, .int x3, .int x4, .int x5] h Q) (e : f_Words_call_43 rc h x1 x4 x5 x6 x7 = some res) (q : Q (some (.int res.1)) res.2) : am_W (X_Words_call (d + 1 + 1)) 43 [some (.ref 27), some (.int x1), some (.int x2), some (.int x3), some (.int x4), some (.int x5), some (.int x6), some (.int x7)] [] h Q :=
  (am_bd (am_ga e)).elim fun p hp => b_Words_call_43 (d := (d + 1)) (q0 := (am_okv (am_gd e))) (k := c_Words_note (d := d + 1) hp.1 (t_Words_call_53 hr0 hr1 hp.2 q))
theorem t_Words_call_32 {d : Nat} {rc : rc_Words_call} {x1 : Int32} {x2 : Int32} {x3 : Int32} {x4 : Int32} {x5 : Int32} {x6 : Int32} {x7 : Int32} {h : am_H} {Q : am_Q} {res : Int32 × am_H} (hr0 : ∀ {x1 : Int32} {x2 : Int32} {x3 : Int32} {x4 : Int32} {x5 : Int32} {h : am_H} {Q : am_Q} {res : Int32 × am_H}, rc.1 h x1 x2 x3 x4 x5 = some res → Q (some (.int res.1)) res.2 → m_Words_call (d + 1) [.ref 27, .int x1, .int x2, .int x3, .int x4, .int x5] h Q) (hr1 : ∀ {x1 : Int32} {x2 : Int32} {x3 : Int32} {x4 : Int32} {x5 : Int32} {h : am_H} {Q : am_Q} {res : Int32 × am_H}, rc.2 h x1 x2 x3 x4 x5 = some res → Q (some (.int res.1)) res.2 → m_Words_runBody (d + 1) [.ref 27, .int x1, .int x2, .int x3, .int x4, .int x5] h Q) (e : f_Words_call_32 rc h x1 x4 x5 x6 x7 = some res) (q : Q (some (.int res.1)) res.2) : am_W (X_Words_call (d + 1 + 1)) 32 [some (.ref 27), some (.int x1), some (.int x2), some (.int x3), some (.int x4), some (.int x5), some (.int x6), some (.int x7)] [] h Q :=
  b_Words_call_32 (d := (d + 1 + 1)) (kt := fun c => (t_Words_call_43 hr0 hr1 (am_ift e c) q)) (kf := fun c => (t_Words_call_41 hr0 hr1 (am_ife e c) q))
theorem t_Words_call_27 {d : Nat} {rc : rc_Words_call} {x1 : Int32} {x2 : Int32} {x3 : Int32} {x4 : Int32} {x5 : Int32} {x6 : Int32} {x7 : Int32} {h : am_H} {Q : am_Q} {res : Int32 × am_H} (hr0 : ∀ {x1 : Int32} {x2 : Int32} {x3 : Int32} {x4 : Int32} {x5 : Int32} {h : am_H} {Q : am_Q} {res : Int32 × am_H}, rc.1 h x1 x2 x3 x4 x5 = some res → Q (some (.int res.1)) res.2 → m_Words_call (d + 1) [.ref 27, .int x1, .int x2, .int x3, .int x4, .int x5] h Q) (hr1 : ∀ {x1 : Int32} {x2 : Int32} {x3 : Int32} {x4 : Int32} {x5 : Int32} {h : am_H} {Q : am_Q} {res : Int32 × am_H}, rc.2 h x1 x2 x3 x4 x5 = some res → Q (some (.int res.1)) res.2 → m_Words_runBody (d + 1) [.ref 27, .int x1, .int x2, .int x3, .int x4, .int x5] h Q) (e : f_Words_call_27 rc h x1 x4 x5 x6 x7 = some res) (q : Q (some (.int res.1)) res.2) : am_W (X_Words_call (d + 1 + 1)) 27 [some (.ref 27), some (.int x1), some (.int x2), some (.int x3), some (.int x4), some (.int x5), some (.int x6), some (.int x7)] [] h Q :=
  b_Words_call_27 (d := (d + 1 + 1)) (kt := fun c => (t_Words_call_41 hr0 hr1 (am_ift e c) q)) (kf := fun c => (t_Words_call_32 hr0 hr1 (am_ife e c) q))
theorem t_Words_call_22 {d : Nat} {rc : rc_Words_call} {x1 : Int32} {x2 : Int32} {x3 : Int32} {x4 : Int32} {x5 : Int32} {x6 : Int32} {x7 : Int32} {h : am_H} {Q : am_Q} {res : Int32 × am_H} (hr0 : ∀ {x1 : Int32} {x2 : Int32} {x3 : Int32} {x4 : Int32} {x5 : Int32} {h : am_H} {Q : am_Q} {res : Int32 × am_H}, rc.1 h x1 x2 x3 x4 x5 = some res → Q (some (.int res.1)) res.2 → m_Words_call (d + 1) [.ref 27, .int x1, .int x2, .int x3, .int x4, .int x5] h Q) (hr1 : ∀ {x1 : Int32} {x2 : Int32} {x3 : Int32} {x4 : Int32} {x5 : Int32} {h : am_H} {Q : am_Q} {res : Int32 × am_H}, rc.2 h x1 x2 x3 x4 x5 = some res → Q (some (.int res.1)) res.2 → m_Words_runBody (d + 1) [.ref 27, .int x1, .int x2, .int x3, .int x4, .int x5] h Q) (e : f_Words_call_22 rc h x1 x4 x5 x6 x7 = some res) (q : Q (some (.int res.1)) res.2) : am_W (X_Words_call (d + 1 + 1)) 22 [some (.ref 27), some (.int x1), some (.int x2), some (.int x3), some (.int x4), some (.int x5), some (.int x6), some (.int x7)] [] h Q :=
  b_Words_call_22 (d := (d + 1 + 1)) (kt := fun c => (t_Words_call_41 hr0 hr1 (am_ift e c) q)) (kf := fun c => (t_Words_call_27 hr0 hr1 (am_ife e c) q))
theorem t_Words_call_5 {d : Nat} {rc : rc_Words_call} {x1 : Int32} {x2 : Int32} {x3 : Int32} {x4 : Int32} {x5 : Int32} {y0 : Int32} {h : am_H} {Q : am_Q} {res : Int32 × am_H} (hr0 : ∀ {x1 : Int32} {x2 : Int32} {x3 : Int32} {x4 : Int32} {x5 : Int32} {h : am_H} {Q : am_Q} {res : Int32 × am_H}, rc.1 h x1 x2 x3 x4 x5 = some res → Q (some (.int res.1)) res.2 → m_Words_call (d + 1) [.ref 27, .int x1, .int x2, .int x3, .int x4, .int x5] h Q) (hr1 : ∀ {x1 : Int32} {x2 : Int32} {x3 : Int32} {x4 : Int32} {x5 : Int32} {h : am_H} {Q : am_Q} {res : Int32 × am_H}, rc.2 h x1 x2 x3 x4 x5 = some res → Q (some (.int res.1)) res.2 → m_Words_runBody (d + 1) [.ref 27, .int x1, .int x2, .int x3, .int x4, .int x5] h Q) (e : f_Words_call_5 rc h x1 x3 x4 x5 y0 = some res) (q : Q (some (.int res.1)) res.2) : am_W (X_Words_call (d + 1 + 1)) 5 [some (.ref 27), some (.int x1), some (.int x2), some (.int x3), some (.int x4), some (.int x5), none, none] [.int y0] h Q :=
  b_Words_call_5 (d := (d + 1 + 1)) (kt := fun c => (t_Words_call_41 hr0 hr1 (am_ift e c) q)) (kf := fun c => (t_Words_call_22 hr0 hr1 (am_ife e c) q))
theorem t_Words_call_0 {d : Nat} {rc : rc_Words_call} {x1 : Int32} {x2 : Int32} {x3 : Int32} {x4 : Int32} {x5 : Int32} {h : am_H} {Q : am_Q} {res : Int32 × am_H} (hr0 : ∀ {x1 : Int32} {x2 : Int32} {x3 : Int32} {x4 : Int32} {x5 : Int32} {h : am_H} {Q : am_Q} {res : Int32 × am_H}, rc.1 h x1 x2 x3 x4 x5 = some res → Q (some (.int res.1)) res.2 → m_Words_call (d + 1) [.ref 27, .int x1, .int x2, .int x3, .int x4, .int x5] h Q) (hr1 : ∀ {x1 : Int32} {x2 : Int32} {x3 : Int32} {x4 : Int32} {x5 : Int32} {h : am_H} {Q : am_Q} {res : Int32 × am_H}, rc.2 h x1 x2 x3 x4 x5 = some res → Q (some (.int res.1)) res.2 → m_Words_runBody (d + 1) [.ref 27, .int x1, .int x2, .int x3, .int x4, .int x5] h Q) (e : f_Words_call_0 rc h x1 x2 x3 x4 x5 = some res) (q : Q (some (.int res.1)) res.2) : am_W (X_Words_call (d + 1 + 1)) 0 [some (.ref 27), some (.int x1), some (.int x2), some (.int x3), some (.int x4), some (.int x5), none, none] [] h Q :=
  (am_bd e).elim fun p hp => b_Words_call_0 (d := (d + 1)) (k := c_Words_holderOf (d := d) hp.1 (t_Words_call_5 hr0 hr1 hp.2 q))
theorem t_Words_runBody_140 {d : Nat} {rc : rc_Words_call} {x1 : Int32} {x2 : Int32} {x3 : Int32} {x4 : Int32} {x5 : Int32} {x6 : Int32} {x7 : Int32} {h : am_H} {Q : am_Q} {res : Int32 × am_H} (hr0 : ∀ {x1 : Int32} {x2 : Int32} {x3 : Int32} {x4 : Int32} {x5 : Int32} {h : am_H} {Q : am_Q} {res : Int32 × am_H}, rc.1 h x1 x2 x3 x4 x5 = some res → Q (some (.int res.1)) res.2 → m_Words_call (d + 1) [.ref 27, .int x1, .int x2, .int x3, .int x4, .int x5] h Q) (hr1 : ∀ {x1 : Int32} {x2 : Int32} {x3 : Int32} {x4 : Int32} {x5 : Int32} {h : am_H} {Q : am_Q} {res : Int32 × am_H}, rc.2 h x1 x2 x3 x4 x5 = some res → Q (some (.int res.1)) res.2 → m_Words_runBody (d + 1) [.ref 27, .int x1, .int x2, .int x3, .int x4, .int x5] h Q) (e : f_Words_runBody_140 rc h x2 x4 = some res) (q : Q (some (.int res.1)) res.2) : am_W (X_Words_runBody (d + 1 + 1)) 140 [some (.ref 27), some (.int x1), some (.int x2), some (.int x3), some (.int x4), some (.int x5), some (.int x6), some (.int x7)] [] h Q :=
  b_Words_runBody_140 (d := (d + 1 + 1)) (q := (am_rIpi (v := (x4 + x2)) e q))
theorem t_Words_runBody_168 {d : Nat} {rc : rc_Words_call} {x1 : Int32} {x2 : Int32} {x3 : Int32} {x4 : Int32} {x5 : Int32} {x6 : Int32} {x7 : Int32} {y1 : Int32} {y0 : Int32} {h : am_H} {Q : am_Q} {res : Int32 × am_H} (hr0 : ∀ {x1 : Int32} {x2 : Int32} {x3 : Int32} {x4 : Int32} {x5 : Int32} {h : am_H} {Q : am_Q} {res : Int32 × am_H}, rc.1 h x1 x2 x3 x4 x5 = some res → Q (some (.int res.1)) res.2 → m_Words_call (d + 1) [.ref 27, .int x1, .int x2, .int x3, .int x4, .int x5] h Q) (hr1 : ∀ {x1 : Int32} {x2 : Int32} {x3 : Int32} {x4 : Int32} {x5 : Int32} {h : am_H} {Q : am_Q} {res : Int32 × am_H}, rc.2 h x1 x2 x3 x4 x5 = some res → Q (some (.int res.1)) res.2 → m_Words_runBody (d + 1) [.ref 27, .int x1, .int x2, .int x3, .int x4, .int x5] h Q) (e : f_Words_runBody_168 rc h y1 y0 = some res) (q : Q (some (.int res.1)) res.2) : am_W (X_Words_runBody (d + 1 + 1)) 168 [some (.ref 27), some (.int x1), some (.int x2), some (.int x3), some (.int x4), some (.int x5), some (.int x6), some (.int x7)] [.int y1, .int y0] h Q :=
  b_Words_runBody_168 (d := (d + 1 + 1)) (q := (am_rIpi (v := (y0 - y1)) e q))
theorem t_Words_runBody_157 {d : Nat} {rc : rc_Words_call} {x1 : Int32} {x2 : Int32} {x3 : Int32} {x4 : Int32} {x5 : Int32} {x6 : Int32} {x7 : Int32} {y0 : Int32} {h : am_H} {Q : am_Q} {res : Int32 × am_H} (hr0 : ∀ {x1 : Int32} {x2 : Int32} {x3 : Int32} {x4 : Int32} {x5 : Int32} {h : am_H} {Q : am_Q} {res : Int32 × am_H}, rc.1 h x1 x2 x3 x4 x5 = some res → Q (some (.int res.1)) res.2 → m_Words_call (d + 1) [.ref 27, .int x1, .int x2, .int x3, .int x4, .int x5] h Q) (hr1 : ∀ {x1 : Int32} {x2 : Int32} {x3 : Int32} {x4 : Int32} {x5 : Int32} {h : am_H} {Q : am_Q} {res : Int32 × am_H}, rc.2 h x1 x2 x3 x4 x5 = some res → Q (some (.int res.1)) res.2 → m_Words_runBody (d + 1) [.ref 27, .int x1, .int x2, .int x3, .int x4, .int x5] h Q) (e : f_Words_runBody_157 rc h x2 x5 x6 y0 = some res) (q : Q (some (.int res.1)) res.2) : am_W (X_Words_runBody (d + 1 + 1)) 157 [some (.ref 27), some (.int x1), some (.int x2), some (.int x3), some (.int x4), some (.int x5), some (.int x6), some (.int x7)] [.int y0] h Q :=
  (am_bd e).elim fun p hp => b_Words_runBody_157 (d := (d + 1)) (k := hr0 hp.1 (t_Words_runBody_168 hr0 hr1 hp.2 q))
theorem t_Words_runBody_145 {d : Nat} {rc : rc_Words_call} {x1 : Int32} {x2 : Int32} {x3 : Int32} {x4 : Int32} {x5 : Int32} {x6 : Int32} {x7 : Int32} {h : am_H} {Q : am_Q} {res : Int32 × am_H} (hr0 : ∀ {x1 : Int32} {x2 : Int32} {x3 : Int32} {x4 : Int32} {x5 : Int32} {h : am_H} {Q : am_Q} {res : Int32 × am_H}, rc.1 h x1 x2 x3 x4 x5 = some res → Q (some (.int res.1)) res.2 → m_Words_call (d + 1) [.ref 27, .int x1, .int x2, .int x3, .int x4, .int x5] h Q) (hr1 : ∀ {x1 : Int32} {x2 : Int32} {x3 : Int32} {x4 : Int32} {x5 : Int32} {h : am_H} {Q : am_Q} {res : Int32 × am_H}, rc.2 h x1 x2 x3 x4 x5 = some res → Q (some (.int res.1)) res.2 → m_Words_runBody (d + 1) [.ref 27, .int x1, .int x2, .int x3, .int x4, .int x5] h Q) (e : f_Words_runBody_145 rc h x2 x4 x5 x6 = some res) (q : Q (some (.int res.1)) res.2) : am_W (X_Words_runBody (d + 1 + 1)) 145 [some (.ref 27), some (.int x1), some (.int x2), some (.int x3), some (.int x4), some (.int x5), some (.int x6), some (.int x7)] [] h Q :=
  (am_bd e).elim fun p hp => b_Words_runBody_145 (d := (d + 1)) (k := hr0 hp.1 (t_Words_runBody_157 hr0 hr1 hp.2 q))
theorem t_Words_runBody_182 {d : Nat} {rc : rc_Words_call} {x1 : Int32} {x2 : Int32} {x3 : Int32} {x4 : Int32} {x5 : Int32} {x6 : Int32} {x7 : Int32} {y0 : Int32} {h : am_H} {Q : am_Q} {res : Int32 × am_H} (hr0 : ∀ {x1 : Int32} {x2 : Int32} {x3 : Int32} {x4 : Int32} {x5 : Int32} {h : am_H} {Q : am_Q} {res : Int32 × am_H}, rc.1 h x1 x2 x3 x4 x5 = some res → Q (some (.int res.1)) res.2 → m_Words_call (d + 1) [.ref 27, .int x1, .int x2, .int x3, .int x4, .int x5] h Q) (hr1 : ∀ {x1 : Int32} {x2 : Int32} {x3 : Int32} {x4 : Int32} {x5 : Int32} {h : am_H} {Q : am_Q} {res : Int32 × am_H}, rc.2 h x1 x2 x3 x4 x5 = some res → Q (some (.int res.1)) res.2 → m_Words_runBody (d + 1) [.ref 27, .int x1, .int x2, .int x3, .int x4, .int x5] h Q) (e : f_Words_runBody_182 rc h y0 = some res) (q : Q (some (.int res.1)) res.2) : am_W (X_Words_runBody (d + 1 + 1)) 182 [some (.ref 27), some (.int x1), some (.int x2), some (.int x3), some (.int x4), some (.int x5), some (.int x6), some (.int x7)] [.int y0] h Q :=
  b_Words_runBody_182 (d := (d + 1 + 1)) (q := (am_rIpi (v := (y0 * 2)) e q))
theorem t_Words_runBody_170 {d : Nat} {rc : rc_Words_call} {x1 : Int32} {x2 : Int32} {x3 : Int32} {x4 : Int32} {x5 : Int32} {x6 : Int32} {x7 : Int32} {h : am_H} {Q : am_Q} {res : Int32 × am_H} (hr0 : ∀ {x1 : Int32} {x2 : Int32} {x3 : Int32} {x4 : Int32} {x5 : Int32} {h : am_H} {Q : am_Q} {res : Int32 × am_H}, rc.1 h x1 x2 x3 x4 x5 = some res → Q (some (.int res.1)) res.2 → m_Words_call (d + 1) [.ref 27, .int x1, .int x2, .int x3, .int x4, .int x5] h Q) (hr1 : ∀ {x1 : Int32} {x2 : Int32} {x3 : Int32} {x4 : Int32} {x5 : Int32} {h : am_H} {Q : am_Q} {res : Int32 × am_H}, rc.2 h x1 x2 x3 x4 x5 = some res → Q (some (.int res.1)) res.2 → m_Words_runBody (d + 1) [.ref 27, .int x1, .int x2, .int x3, .int x4, .int x5] h Q) (e : f_Words_runBody_170 rc h x2 x4 x5 x6 = some res) (q : Q (some (.int res.1)) res.2) : am_W (X_Words_runBody (d + 1 + 1)) 170 [some (.ref 27), some (.int x1), some (.int x2), some (.int x3), some (.int x4), some (.int x5), some (.int x6), some (.int x7)] [] h Q :=
  (am_bd e).elim fun p hp => b_Words_runBody_170 (d := (d + 1)) (k := hr0 hp.1 (t_Words_runBody_182 hr0 hr1 hp.2 q))
theorem t_Words_runBody_185 {d : Nat} {rc : rc_Words_call} {x1 : Int32} {x2 : Int32} {x3 : Int32} {x4 : Int32} {x5 : Int32} {x6 : Int32} {x7 : Int32} {h : am_H} {Q : am_Q} {res : Int32 × am_H} (hr0 : ∀ {x1 : Int32} {x2 : Int32} {x3 : Int32} {x4 : Int32} {x5 : Int32} {h : am_H} {Q : am_Q} {res : Int32 × am_H}, rc.1 h x1 x2 x3 x4 x5 = some res → Q (some (.int res.1)) res.2 → m_Words_call (d + 1) [.ref 27, .int x1, .int x2, .int x3, .int x4, .int x5] h Q) (hr1 : ∀ {x1 : Int32} {x2 : Int32} {x3 : Int32} {x4 : Int32} {x5 : Int32} {h : am_H} {Q : am_Q} {res : Int32 × am_H}, rc.2 h x1 x2 x3 x4 x5 = some res → Q (some (.int res.1)) res.2 → m_Words_runBody (d + 1) [.ref 27, .int x1, .int x2, .int x3, .int x4, .int x5] h Q) (e : f_Words_runBody_185 rc h x2 x4 = some res) (q : Q (some (.int res.1)) res.2) : am_W (X_Words_runBody (d + 1 + 1)) 185 [some (.ref 27), some (.int x1), some (.int x2), some (.int x3), some (.int x4), some (.int x5), some (.int x6), some (.int x7)] [] h Q :=
  b_Words_runBody_185 (d := (d + 1 + 1)) (q := (am_rIpi (v := (x4 ^^^ x2)) e q))
theorem t_Words_runBody_202 {d : Nat} {rc : rc_Words_call} {x1 : Int32} {x2 : Int32} {x3 : Int32} {x4 : Int32} {x5 : Int32} {x6 : Int32} {x7 : Int32} {y0 : Int32} {h : am_H} {Q : am_Q} {res : Int32 × am_H} (hr0 : ∀ {x1 : Int32} {x2 : Int32} {x3 : Int32} {x4 : Int32} {x5 : Int32} {h : am_H} {Q : am_Q} {res : Int32 × am_H}, rc.1 h x1 x2 x3 x4 x5 = some res → Q (some (.int res.1)) res.2 → m_Words_call (d + 1) [.ref 27, .int x1, .int x2, .int x3, .int x4, .int x5] h Q) (hr1 : ∀ {x1 : Int32} {x2 : Int32} {x3 : Int32} {x4 : Int32} {x5 : Int32} {h : am_H} {Q : am_Q} {res : Int32 × am_H}, rc.2 h x1 x2 x3 x4 x5 = some res → Q (some (.int res.1)) res.2 → m_Words_runBody (d + 1) [.ref 27, .int x1, .int x2, .int x3, .int x4, .int x5] h Q) (e : f_Words_runBody_202 rc h y0 = some res) (q : Q (some (.int res.1)) res.2) : am_W (X_Words_runBody (d + 1 + 1)) 202 [some (.ref 27), some (.int x1), some (.int x2), some (.int x3), some (.int x4), some (.int x5), some (.int x6), some (.int x7)] [.int y0] h Q :=
  b_Words_runBody_202 (d := (d + 1 + 1)) (q := (am_rIpi (v := (y0 + 3)) e q))
theorem t_Words_runBody_190 {d : Nat} {rc : rc_Words_call} {x1 : Int32} {x2 : Int32} {x3 : Int32} {x4 : Int32} {x5 : Int32} {x6 : Int32} {x7 : Int32} {h : am_H} {Q : am_Q} {res : Int32 × am_H} (hr0 : ∀ {x1 : Int32} {x2 : Int32} {x3 : Int32} {x4 : Int32} {x5 : Int32} {h : am_H} {Q : am_Q} {res : Int32 × am_H}, rc.1 h x1 x2 x3 x4 x5 = some res → Q (some (.int res.1)) res.2 → m_Words_call (d + 1) [.ref 27, .int x1, .int x2, .int x3, .int x4, .int x5] h Q) (hr1 : ∀ {x1 : Int32} {x2 : Int32} {x3 : Int32} {x4 : Int32} {x5 : Int32} {h : am_H} {Q : am_Q} {res : Int32 × am_H}, rc.2 h x1 x2 x3 x4 x5 = some res → Q (some (.int res.1)) res.2 → m_Words_runBody (d + 1) [.ref 27, .int x1, .int x2, .int x3, .int x4, .int x5] h Q) (e : f_Words_runBody_190 rc h x2 x4 x5 x7 = some res) (q : Q (some (.int res.1)) res.2) : am_W (X_Words_runBody (d + 1 + 1)) 190 [some (.ref 27), some (.int x1), some (.int x2), some (.int x3), some (.int x4), some (.int x5), some (.int x6), some (.int x7)] [] h Q :=
  (am_bd e).elim fun p hp => b_Words_runBody_190 (d := (d + 1)) (k := hr0 hp.1 (t_Words_runBody_202 hr0 hr1 hp.2 q))
theorem t_Words_runBody_217 {d : Nat} {rc : rc_Words_call} {x1 : Int32} {x2 : Int32} {x3 : Int32} {x4 : Int32} {x5 : Int32} {x6 : Int32} {x7 : Int32} {y0 : Int32} {h : am_H} {Q : am_Q} {res : Int32 × am_H} (hr0 : ∀ {x1 : Int32} {x2 : Int32} {x3 : Int32} {x4 : Int32} {x5 : Int32} {h : am_H} {Q : am_Q} {res : Int32 × am_H}, rc.1 h x1 x2 x3 x4 x5 = some res → Q (some (.int res.1)) res.2 → m_Words_call (d + 1) [.ref 27, .int x1, .int x2, .int x3, .int x4, .int x5] h Q) (hr1 : ∀ {x1 : Int32} {x2 : Int32} {x3 : Int32} {x4 : Int32} {x5 : Int32} {h : am_H} {Q : am_Q} {res : Int32 × am_H}, rc.2 h x1 x2 x3 x4 x5 = some res → Q (some (.int res.1)) res.2 → m_Words_runBody (d + 1) [.ref 27, .int x1, .int x2, .int x3, .int x4, .int x5] h Q) (e : f_Words_runBody_217 rc h y0 = some res) (q : Q (some (.int res.1)) res.2) : am_W (X_Words_runBody (d + 1 + 1)) 217 [some (.ref 27), some (.int x1), some (.int x2), some (.int x3), some (.int x4), some (.int x5), some (.int x6), some (.int x7)] [.int y0] h Q :=
  b_Words_runBody_217 (d := (d + 1 + 1)) (q := (am_rIpi (v := (-y0)) e q))
theorem t_Words_runBody_205 {d : Nat} {rc : rc_Words_call} {x1 : Int32} {x2 : Int32} {x3 : Int32} {x4 : Int32} {x5 : Int32} {x6 : Int32} {x7 : Int32} {h : am_H} {Q : am_Q} {res : Int32 × am_H} (hr0 : ∀ {x1 : Int32} {x2 : Int32} {x3 : Int32} {x4 : Int32} {x5 : Int32} {h : am_H} {Q : am_Q} {res : Int32 × am_H}, rc.1 h x1 x2 x3 x4 x5 = some res → Q (some (.int res.1)) res.2 → m_Words_call (d + 1) [.ref 27, .int x1, .int x2, .int x3, .int x4, .int x5] h Q) (hr1 : ∀ {x1 : Int32} {x2 : Int32} {x3 : Int32} {x4 : Int32} {x5 : Int32} {h : am_H} {Q : am_Q} {res : Int32 × am_H}, rc.2 h x1 x2 x3 x4 x5 = some res → Q (some (.int res.1)) res.2 → m_Words_runBody (d + 1) [.ref 27, .int x1, .int x2, .int x3, .int x4, .int x5] h Q) (e : f_Words_runBody_205 rc h x2 x4 x5 x7 = some res) (q : Q (some (.int res.1)) res.2) : am_W (X_Words_runBody (d + 1 + 1)) 205 [some (.ref 27), some (.int x1), some (.int x2), some (.int x3), some (.int x4), some (.int x5), some (.int x6), some (.int x7)] [] h Q :=
  (am_bd e).elim fun p hp => b_Words_runBody_205 (d := (d + 1)) (k := hr0 hp.1 (t_Words_runBody_217 hr0 hr1 hp.2 q))
theorem t_Words_runBody_231 {d : Nat} {rc : rc_Words_call} {x1 : Int32} {x2 : Int32} {x3 : Int32} {x4 : Int32} {x5 : Int32} {x6 : Int32} {x7 : Int32} {y0 : Int32} {h : am_H} {Q : am_Q} {res : Int32 × am_H} (hr0 : ∀ {x1 : Int32} {x2 : Int32} {x3 : Int32} {x4 : Int32} {x5 : Int32} {h : am_H} {Q : am_Q} {res : Int32 × am_H}, rc.1 h x1 x2 x3 x4 x5 = some res → Q (some (.int res.1)) res.2 → m_Words_call (d + 1) [.ref 27, .int x1, .int x2, .int x3, .int x4, .int x5] h Q) (hr1 : ∀ {x1 : Int32} {x2 : Int32} {x3 : Int32} {x4 : Int32} {x5 : Int32} {h : am_H} {Q : am_Q} {res : Int32 × am_H}, rc.2 h x1 x2 x3 x4 x5 = some res → Q (some (.int res.1)) res.2 → m_Words_runBody (d + 1) [.ref 27, .int x1, .int x2, .int x3, .int x4, .int x5] h Q) (e : f_Words_runBody_231 rc h y0 = some res) (q : Q (some (.int res.1)) res.2) : am_W (X_Words_runBody (d + 1 + 1)) 231 [some (.ref 27), some (.int x1), some (.int x2), some (.int x3), some (.int x4), some (.int x5), some (.int x6), some (.int x7)] [.int y0] h Q :=
  b_Words_runBody_231 (d := (d + 1 + 1)) (q := (am_rIpi (v := (y0 * 3)) e q))
theorem t_Words_runBody_219 {d : Nat} {rc : rc_Words_call} {x1 : Int32} {x2 : Int32} {x3 : Int32} {x4 : Int32} {x5 : Int32} {x6 : Int32} {x7 : Int32} {h : am_H} {Q : am_Q} {res : Int32 × am_H} (hr0 : ∀ {x1 : Int32} {x2 : Int32} {x3 : Int32} {x4 : Int32} {x5 : Int32} {h : am_H} {Q : am_Q} {res : Int32 × am_H}, rc.1 h x1 x2 x3 x4 x5 = some res → Q (some (.int res.1)) res.2 → m_Words_call (d + 1) [.ref 27, .int x1, .int x2, .int x3, .int x4, .int x5] h Q) (hr1 : ∀ {x1 : Int32} {x2 : Int32} {x3 : Int32} {x4 : Int32} {x5 : Int32} {h : am_H} {Q : am_Q} {res : Int32 × am_H}, rc.2 h x1 x2 x3 x4 x5 = some res → Q (some (.int res.1)) res.2 → m_Words_runBody (d + 1) [.ref 27, .int x1, .int x2, .int x3, .int x4, .int x5] h Q) (e : f_Words_runBody_219 rc h x2 x4 x5 x7 = some res) (q : Q (some (.int res.1)) res.2) : am_W (X_Words_runBody (d + 1 + 1)) 219 [some (.ref 27), some (.int x1), some (.int x2), some (.int x3), some (.int x4), some (.int x5), some (.int x6), some (.int x7)] [] h Q :=
  (am_bd e).elim fun p hp => b_Words_runBody_219 (d := (d + 1)) (k := hr0 hp.1 (t_Words_runBody_231 hr0 hr1 hp.2 q))
theorem t_Words_runBody_248 {d : Nat} {rc : rc_Words_call} {x1 : Int32} {x2 : Int32} {x3 : Int32} {x4 : Int32} {x5 : Int32} {x6 : Int32} {x7 : Int32} {y0 : Int32} {h : am_H} {Q : am_Q} {res : Int32 × am_H} (hr0 : ∀ {x1 : Int32} {x2 : Int32} {x3 : Int32} {x4 : Int32} {x5 : Int32} {h : am_H} {Q : am_Q} {res : Int32 × am_H}, rc.1 h x1 x2 x3 x4 x5 = some res → Q (some (.int res.1)) res.2 → m_Words_call (d + 1) [.ref 27, .int x1, .int x2, .int x3, .int x4, .int x5] h Q) (hr1 : ∀ {x1 : Int32} {x2 : Int32} {x3 : Int32} {x4 : Int32} {x5 : Int32} {h : am_H} {Q : am_Q} {res : Int32 × am_H}, rc.2 h x1 x2 x3 x4 x5 = some res → Q (some (.int res.1)) res.2 → m_Words_runBody (d + 1) [.ref 27, .int x1, .int x2, .int x3, .int x4, .int x5] h Q) (e : f_Words_runBody_248 rc h y0 = some res) (q : Q (some (.int res.1)) res.2) : am_W (X_Words_runBody (d + 1 + 1)) 248 [some (.ref 27), some (.int x1), some (.int x2), some (.int x3), some (.int x4), some (.int x5), some (.int x6), some (.int x7)] [.int y0] h Q :=
  b_Words_runBody_248 (d := (d + 1 + 1)) (q := (am_rIpi (v := y0) e q))
theorem t_Words_runBody_234 {d : Nat} {rc : rc_Words_call} {x1 : Int32} {x2 : Int32} {x3 : Int32} {x4 : Int32} {x5 : Int32} {x6 : Int32} {x7 : Int32} {h : am_H} {Q : am_Q} {res : Int32 × am_H} (hr0 : ∀ {x1 : Int32} {x2 : Int32} {x3 : Int32} {x4 : Int32} {x5 : Int32} {h : am_H} {Q : am_Q} {res : Int32 × am_H}, rc.1 h x1 x2 x3 x4 x5 = some res → Q (some (.int res.1)) res.2 → m_Words_call (d + 1) [.ref 27, .int x1, .int x2, .int x3, .int x4, .int x5] h Q) (hr1 : ∀ {x1 : Int32} {x2 : Int32} {x3 : Int32} {x4 : Int32} {x5 : Int32} {h : am_H} {Q : am_Q} {res : Int32 × am_H}, rc.2 h x1 x2 x3 x4 x5 = some res → Q (some (.int res.1)) res.2 → m_Words_runBody (d + 1) [.ref 27, .int x1, .int x2, .int x3, .int x4, .int x5] h Q) (e : f_Words_runBody_234 rc h x2 x4 x5 x7 = some res) (q : Q (some (.int res.1)) res.2) : am_W (X_Words_runBody (d + 1 + 1)) 234 [some (.ref 27), some (.int x1), some (.int x2), some (.int x3), some (.int x4), some (.int x5), some (.int x6), some (.int x7)] [] h Q :=
  (am_bd e).elim fun p hp => b_Words_runBody_234 (d := (d + 1)) (k := hr0 hp.1 (t_Words_runBody_248 hr0 hr1 hp.2 q))
theorem t_Words_runBody_272 {d : Nat} {rc : rc_Words_call} {x1 : Int32} {x2 : Int32} {x3 : Int32} {x4 : Int32} {x5 : Int32} {x6 : Int32} {x7 : Int32} {y1 : Int32} {y0 : Int32} {h : am_H} {Q : am_Q} {res : Int32 × am_H} (hr0 : ∀ {x1 : Int32} {x2 : Int32} {x3 : Int32} {x4 : Int32} {x5 : Int32} {h : am_H} {Q : am_Q} {res : Int32 × am_H}, rc.1 h x1 x2 x3 x4 x5 = some res → Q (some (.int res.1)) res.2 → m_Words_call (d + 1) [.ref 27, .int x1, .int x2, .int x3, .int x4, .int x5] h Q) (hr1 : ∀ {x1 : Int32} {x2 : Int32} {x3 : Int32} {x4 : Int32} {x5 : Int32} {h : am_H} {Q : am_Q} {res : Int32 × am_H}, rc.2 h x1 x2 x3 x4 x5 = some res → Q (some (.int res.1)) res.2 → m_Words_runBody (d + 1) [.ref 27, .int x1, .int x2, .int x3, .int x4, .int x5] h Q) (e : f_Words_runBody_272 rc h y1 y0 = some res) (q : Q (some (.int res.1)) res.2) : am_W (X_Words_runBody (d + 1 + 1)) 272 [some (.ref 27), some (.int x1), some (.int x2), some (.int x3), some (.int x4), some (.int x5), some (.int x6), some (.int x7)] [.int y1, .int y0] h Q :=
  b_Words_runBody_272 (d := (d + 1 + 1)) (q := (am_rIpi (v := (y0 - y1)) e q))
theorem t_Words_runBody_261 {d : Nat} {rc : rc_Words_call} {x1 : Int32} {x2 : Int32} {x3 : Int32} {x4 : Int32} {x5 : Int32} {x6 : Int32} {x7 : Int32} {y0 : Int32} {h : am_H} {Q : am_Q} {res : Int32 × am_H} (hr0 : ∀ {x1 : Int32} {x2 : Int32} {x3 : Int32} {x4 : Int32} {x5 : Int32} {h : am_H} {Q : am_Q} {res : Int32 × am_H}, rc.1 h x1 x2 x3 x4 x5 = some res → Q (some (.int res.1)) res.2 → m_Words_call (d + 1) [.ref 27, .int x1, .int x2, .int x3, .int x4, .int x5] h Q) (hr1 : ∀ {x1 : Int32} {x2 : Int32} {x3 : Int32} {x4 : Int32} {x5 : Int32} {h : am_H} {Q : am_Q} {res : Int32 × am_H}, rc.2 h x1 x2 x3 x4 x5 = some res → Q (some (.int res.1)) res.2 → m_Words_runBody (d + 1) [.ref 27, .int x1, .int x2, .int x3, .int x4, .int x5] h Q) (e : f_Words_runBody_261 rc h x2 x5 x6 y0 = some res) (q : Q (some (.int res.1)) res.2) : am_W (X_Words_runBody (d + 1 + 1)) 261 [some (.ref 27), some (.int x1), some (.int x2), some (.int x3), some (.int x4), some (.int x5), some (.int x6), some (.int x7)] [.int y0] h Q :=
  (am_bd e).elim fun p hp => b_Words_runBody_261 (d := (d + 1)) (k := hr0 hp.1 (t_Words_runBody_272 hr0 hr1 hp.2 q))
theorem t_Words_runBody_249 {d : Nat} {rc : rc_Words_call} {x1 : Int32} {x2 : Int32} {x3 : Int32} {x4 : Int32} {x5 : Int32} {x6 : Int32} {x7 : Int32} {h : am_H} {Q : am_Q} {res : Int32 × am_H} (hr0 : ∀ {x1 : Int32} {x2 : Int32} {x3 : Int32} {x4 : Int32} {x5 : Int32} {h : am_H} {Q : am_Q} {res : Int32 × am_H}, rc.1 h x1 x2 x3 x4 x5 = some res → Q (some (.int res.1)) res.2 → m_Words_call (d + 1) [.ref 27, .int x1, .int x2, .int x3, .int x4, .int x5] h Q) (hr1 : ∀ {x1 : Int32} {x2 : Int32} {x3 : Int32} {x4 : Int32} {x5 : Int32} {h : am_H} {Q : am_Q} {res : Int32 × am_H}, rc.2 h x1 x2 x3 x4 x5 = some res → Q (some (.int res.1)) res.2 → m_Words_runBody (d + 1) [.ref 27, .int x1, .int x2, .int x3, .int x4, .int x5] h Q) (e : f_Words_runBody_249 rc h x2 x4 x5 x6 x7 = some res) (q : Q (some (.int res.1)) res.2) : am_W (X_Words_runBody (d + 1 + 1)) 249 [some (.ref 27), some (.int x1), some (.int x2), some (.int x3), some (.int x4), some (.int x5), some (.int x6), some (.int x7)] [] h Q :=
  (am_bd e).elim fun p hp => b_Words_runBody_249 (d := (d + 1)) (k := hr0 hp.1 (t_Words_runBody_261 hr0 hr1 hp.2 q))
theorem t_Words_runBody_286 {d : Nat} {rc : rc_Words_call} {x1 : Int32} {x2 : Int32} {x3 : Int32} {x4 : Int32} {x5 : Int32} {x6 : Int32} {x7 : Int32} {y0 : Int32} {h : am_H} {Q : am_Q} {res : Int32 × am_H} (hr0 : ∀ {x1 : Int32} {x2 : Int32} {x3 : Int32} {x4 : Int32} {x5 : Int32} {h : am_H} {Q : am_Q} {res : Int32 × am_H}, rc.1 h x1 x2 x3 x4 x5 = some res → Q (some (.int res.1)) res.2 → m_Words_call (d + 1) [.ref 27, .int x1, .int x2, .int x3, .int x4, .int x5] h Q) (hr1 : ∀ {x1 : Int32} {x2 : Int32} {x3 : Int32} {x4 : Int32} {x5 : Int32} {h : am_H} {Q : am_Q} {res : Int32 × am_H}, rc.2 h x1 x2 x3 x4 x5 = some res → Q (some (.int res.1)) res.2 → m_Words_runBody (d + 1) [.ref 27, .int x1, .int x2, .int x3, .int x4, .int x5] h Q) (e : f_Words_runBody_286 rc h y0 = some res) (q : Q (some (.int res.1)) res.2) : am_W (X_Words_runBody (d + 1 + 1)) 286 [some (.ref 27), some (.int x1), some (.int x2), some (.int x3), some (.int x4), some (.int x5), some (.int x6), some (.int x7)] [.int y0] h Q :=
  b_Words_runBody_286 (d := (d + 1 + 1)) (q := (am_rIpi (v := (y0 ^^^ 5)) e q))
theorem t_Words_runBody_274 {d : Nat} {rc : rc_Words_call} {x1 : Int32} {x2 : Int32} {x3 : Int32} {x4 : Int32} {x5 : Int32} {x6 : Int32} {x7 : Int32} {h : am_H} {Q : am_Q} {res : Int32 × am_H} (hr0 : ∀ {x1 : Int32} {x2 : Int32} {x3 : Int32} {x4 : Int32} {x5 : Int32} {h : am_H} {Q : am_Q} {res : Int32 × am_H}, rc.1 h x1 x2 x3 x4 x5 = some res → Q (some (.int res.1)) res.2 → m_Words_call (d + 1) [.ref 27, .int x1, .int x2, .int x3, .int x4, .int x5] h Q) (hr1 : ∀ {x1 : Int32} {x2 : Int32} {x3 : Int32} {x4 : Int32} {x5 : Int32} {h : am_H} {Q : am_Q} {res : Int32 × am_H}, rc.2 h x1 x2 x3 x4 x5 = some res → Q (some (.int res.1)) res.2 → m_Words_runBody (d + 1) [.ref 27, .int x1, .int x2, .int x3, .int x4, .int x5] h Q) (e : f_Words_runBody_274 rc h x2 x4 x5 x7 = some res) (q : Q (some (.int res.1)) res.2) : am_W (X_Words_runBody (d + 1 + 1)) 274 [some (.ref 27), some (.int x1), some (.int x2), some (.int x3), some (.int x4), some (.int x5), some (.int x6), some (.int x7)] [] h Q :=
  (am_bd e).elim fun p hp => b_Words_runBody_274 (d := (d + 1)) (k := hr0 hp.1 (t_Words_runBody_286 hr0 hr1 hp.2 q))
theorem t_Words_runBody_301 {d : Nat} {rc : rc_Words_call} {x1 : Int32} {x2 : Int32} {x3 : Int32} {x4 : Int32} {x5 : Int32} {x6 : Int32} {x7 : Int32} {y0 : Int32} {h : am_H} {Q : am_Q} {res : Int32 × am_H} (hr0 : ∀ {x1 : Int32} {x2 : Int32} {x3 : Int32} {x4 : Int32} {x5 : Int32} {h : am_H} {Q : am_Q} {res : Int32 × am_H}, rc.1 h x1 x2 x3 x4 x5 = some res → Q (some (.int res.1)) res.2 → m_Words_call (d + 1) [.ref 27, .int x1, .int x2, .int x3, .int x4, .int x5] h Q) (hr1 : ∀ {x1 : Int32} {x2 : Int32} {x3 : Int32} {x4 : Int32} {x5 : Int32} {h : am_H} {Q : am_Q} {res : Int32 × am_H}, rc.2 h x1 x2 x3 x4 x5 = some res → Q (some (.int res.1)) res.2 → m_Words_runBody (d + 1) [.ref 27, .int x1, .int x2, .int x3, .int x4, .int x5] h Q) (e : f_Words_runBody_301 rc h y0 = some res) (q : Q (some (.int res.1)) res.2) : am_W (X_Words_runBody (d + 1 + 1)) 301 [some (.ref 27), some (.int x1), some (.int x2), some (.int x3), some (.int x4), some (.int x5), some (.int x6), some (.int x7)] [.int y0] h Q :=
  b_Words_runBody_301 (d := (d + 1 + 1)) (q := (am_rIpi (v := (y0 * 2)) e q))
theorem t_Words_runBody_289 {d : Nat} {rc : rc_Words_call} {x1 : Int32} {x2 : Int32} {x3 : Int32} {x4 : Int32} {x5 : Int32} {x6 : Int32} {x7 : Int32} {h : am_H} {Q : am_Q} {res : Int32 × am_H} (hr0 : ∀ {x1 : Int32} {x2 : Int32} {x3 : Int32} {x4 : Int32} {x5 : Int32} {h : am_H} {Q : am_Q} {res : Int32 × am_H}, rc.1 h x1 x2 x3 x4 x5 = some res → Q (some (.int res.1)) res.2 → m_Words_call (d + 1) [.ref 27, .int x1, .int x2, .int x3, .int x4, .int x5] h Q) (hr1 : ∀ {x1 : Int32} {x2 : Int32} {x3 : Int32} {x4 : Int32} {x5 : Int32} {h : am_H} {Q : am_Q} {res : Int32 × am_H}, rc.2 h x1 x2 x3 x4 x5 = some res → Q (some (.int res.1)) res.2 → m_Words_runBody (d + 1) [.ref 27, .int x1, .int x2, .int x3, .int x4, .int x5] h Q) (e : f_Words_runBody_289 rc h x2 x4 x5 x7 = some res) (q : Q (some (.int res.1)) res.2) : am_W (X_Words_runBody (d + 1 + 1)) 289 [some (.ref 27), some (.int x1), some (.int x2), some (.int x3), some (.int x4), some (.int x5), some (.int x6), some (.int x7)] [] h Q :=
  (am_bd e).elim fun p hp => b_Words_runBody_289 (d := (d + 1)) (k := hr0 hp.1 (t_Words_runBody_301 hr0 hr1 hp.2 q))
theorem t_Words_runBody_327 {d : Nat} {rc : rc_Words_call} {x1 : Int32} {x2 : Int32} {x3 : Int32} {x4 : Int32} {x5 : Int32} {x6 : Int32} {x7 : Int32} {y1 : Int32} {y0 : Int32} {h : am_H} {Q : am_Q} {res : Int32 × am_H} (hr0 : ∀ {x1 : Int32} {x2 : Int32} {x3 : Int32} {x4 : Int32} {x5 : Int32} {h : am_H} {Q : am_Q} {res : Int32 × am_H}, rc.1 h x1 x2 x3 x4 x5 = some res → Q (some (.int res.1)) res.2 → m_Words_call (d + 1) [.ref 27, .int x1, .int x2, .int x3, .int x4, .int x5] h Q) (hr1 : ∀ {x1 : Int32} {x2 : Int32} {x3 : Int32} {x4 : Int32} {x5 : Int32} {h : am_H} {Q : am_Q} {res : Int32 × am_H}, rc.2 h x1 x2 x3 x4 x5 = some res → Q (some (.int res.1)) res.2 → m_Words_runBody (d + 1) [.ref 27, .int x1, .int x2, .int x3, .int x4, .int x5] h Q) (e : f_Words_runBody_327 rc h y1 y0 = some res) (q : Q (some (.int res.1)) res.2) : am_W (X_Words_runBody (d + 1 + 1)) 327 [some (.ref 27), some (.int x1), some (.int x2), some (.int x3), some (.int x4), some (.int x5), some (.int x6), some (.int x7)] [.int y1, .int y0] h Q :=
  b_Words_runBody_327 (d := (d + 1 + 1)) (q := (am_rIpi (v := (y0 + y1)) e q))
theorem t_Words_runBody_316 {d : Nat} {rc : rc_Words_call} {x1 : Int32} {x2 : Int32} {x3 : Int32} {x4 : Int32} {x5 : Int32} {x6 : Int32} {x7 : Int32} {y0 : Int32} {h : am_H} {Q : am_Q} {res : Int32 × am_H} (hr0 : ∀ {x1 : Int32} {x2 : Int32} {x3 : Int32} {x4 : Int32} {x5 : Int32} {h : am_H} {Q : am_Q} {res : Int32 × am_H}, rc.1 h x1 x2 x3 x4 x5 = some res → Q (some (.int res.1)) res.2 → m_Words_call (d + 1) [.ref 27, .int x1, .int x2, .int x3, .int x4, .int x5] h Q) (hr1 : ∀ {x1 : Int32} {x2 : Int32} {x3 : Int32} {x4 : Int32} {x5 : Int32} {h : am_H} {Q : am_Q} {res : Int32 × am_H}, rc.2 h x1 x2 x3 x4 x5 = some res → Q (some (.int res.1)) res.2 → m_Words_runBody (d + 1) [.ref 27, .int x1, .int x2, .int x3, .int x4, .int x5] h Q) (e : f_Words_runBody_316 rc h x2 x5 x6 y0 = some res) (q : Q (some (.int res.1)) res.2) : am_W (X_Words_runBody (d + 1 + 1)) 316 [some (.ref 27), some (.int x1), some (.int x2), some (.int x3), some (.int x4), some (.int x5), some (.int x6), some (.int x7)] [.int y0] h Q :=
  (am_bd e).elim fun p hp => b_Words_runBody_316 (d := (d + 1)) (k := hr0 hp.1 (t_Words_runBody_327 hr0 hr1 hp.2 q))
theorem t_Words_runBody_304 {d : Nat} {rc : rc_Words_call} {x1 : Int32} {x2 : Int32} {x3 : Int32} {x4 : Int32} {x5 : Int32} {x6 : Int32} {x7 : Int32} {h : am_H} {Q : am_Q} {res : Int32 × am_H} (hr0 : ∀ {x1 : Int32} {x2 : Int32} {x3 : Int32} {x4 : Int32} {x5 : Int32} {h : am_H} {Q : am_Q} {res : Int32 × am_H}, rc.1 h x1 x2 x3 x4 x5 = some res → Q (some (.int res.1)) res.2 → m_Words_call (d + 1) [.ref 27, .int x1, .int x2, .int x3, .int x4, .int x5] h Q) (hr1 : ∀ {x1 : Int32} {x2 : Int32} {x3 : Int32} {x4 : Int32} {x5 : Int32} {h : am_H} {Q : am_Q} {res : Int32 × am_H}, rc.2 h x1 x2 x3 x4 x5 = some res → Q (some (.int res.1)) res.2 → m_Words_runBody (d + 1) [.ref 27, .int x1, .int x2, .int x3, .int x4, .int x5] h Q) (e : f_Words_runBody_304 rc h x2 x4 x5 x6 x7 = some res) (q : Q (some (.int res.1)) res.2) : am_W (X_Words_runBody (d + 1 + 1)) 304 [some (.ref 27), some (.int x1), some (.int x2), some (.int x3), some (.int x4), some (.int x5), some (.int x6), some (.int x7)] [] h Q :=
  (am_bd e).elim fun p hp => b_Words_runBody_304 (d := (d + 1)) (k := hr0 hp.1 (t_Words_runBody_316 hr0 hr1 hp.2 q))
theorem t_Words_runBody_341 {d : Nat} {rc : rc_Words_call} {x1 : Int32} {x2 : Int32} {x3 : Int32} {x4 : Int32} {x5 : Int32} {x6 : Int32} {x7 : Int32} {y0 : Int32} {h : am_H} {Q : am_Q} {res : Int32 × am_H} (hr0 : ∀ {x1 : Int32} {x2 : Int32} {x3 : Int32} {x4 : Int32} {x5 : Int32} {h : am_H} {Q : am_Q} {res : Int32 × am_H}, rc.1 h x1 x2 x3 x4 x5 = some res → Q (some (.int res.1)) res.2 → m_Words_call (d + 1) [.ref 27, .int x1, .int x2, .int x3, .int x4, .int x5] h Q) (hr1 : ∀ {x1 : Int32} {x2 : Int32} {x3 : Int32} {x4 : Int32} {x5 : Int32} {h : am_H} {Q : am_Q} {res : Int32 × am_H}, rc.2 h x1 x2 x3 x4 x5 = some res → Q (some (.int res.1)) res.2 → m_Words_runBody (d + 1) [.ref 27, .int x1, .int x2, .int x3, .int x4, .int x5] h Q) (e : f_Words_runBody_341 rc h y0 = some res) (q : Q (some (.int res.1)) res.2) : am_W (X_Words_runBody (d + 1 + 1)) 341 [some (.ref 27), some (.int x1), some (.int x2), some (.int x3), some (.int x4), some (.int x5), some (.int x6), some (.int x7)] [.int y0] h Q :=
  b_Words_runBody_341 (d := (d + 1 + 1)) (q := (am_rIpi (v := (y0 - 1)) e q))
theorem t_Words_runBody_329 {d : Nat} {rc : rc_Words_call} {x1 : Int32} {x2 : Int32} {x3 : Int32} {x4 : Int32} {x5 : Int32} {x6 : Int32} {x7 : Int32} {h : am_H} {Q : am_Q} {res : Int32 × am_H} (hr0 : ∀ {x1 : Int32} {x2 : Int32} {x3 : Int32} {x4 : Int32} {x5 : Int32} {h : am_H} {Q : am_Q} {res : Int32 × am_H}, rc.1 h x1 x2 x3 x4 x5 = some res → Q (some (.int res.1)) res.2 → m_Words_call (d + 1) [.ref 27, .int x1, .int x2, .int x3, .int x4, .int x5] h Q) (hr1 : ∀ {x1 : Int32} {x2 : Int32} {x3 : Int32} {x4 : Int32} {x5 : Int32} {h : am_H} {Q : am_Q} {res : Int32 × am_H}, rc.2 h x1 x2 x3 x4 x5 = some res → Q (some (.int res.1)) res.2 → m_Words_runBody (d + 1) [.ref 27, .int x1, .int x2, .int x3, .int x4, .int x5] h Q) (e : f_Words_runBody_329 rc h x2 x4 x5 x7 = some res) (q : Q (some (.int res.1)) res.2) : am_W (X_Words_runBody (d + 1 + 1)) 329 [some (.ref 27), some (.int x1), some (.int x2), some (.int x3), some (.int x4), some (.int x5), some (.int x6), some (.int x7)] [] h Q :=
  (am_bd e).elim fun p hp => b_Words_runBody_329 (d := (d + 1)) (k := hr0 hp.1 (t_Words_runBody_341 hr0 hr1 hp.2 q))
theorem t_Words_runBody_344 {d : Nat} {rc : rc_Words_call} {x1 : Int32} {x2 : Int32} {x3 : Int32} {x4 : Int32} {x5 : Int32} {x6 : Int32} {x7 : Int32} {h : am_H} {Q : am_Q} {res : Int32 × am_H} (hr0 : ∀ {x1 : Int32} {x2 : Int32} {x3 : Int32} {x4 : Int32} {x5 : Int32} {h : am_H} {Q : am_Q} {res : Int32 × am_H}, rc.1 h x1 x2 x3 x4 x5 = some res → Q (some (.int res.1)) res.2 → m_Words_call (d + 1) [.ref 27, .int x1, .int x2, .int x3, .int x4, .int x5] h Q) (hr1 : ∀ {x1 : Int32} {x2 : Int32} {x3 : Int32} {x4 : Int32} {x5 : Int32} {h : am_H} {Q : am_Q} {res : Int32 × am_H}, rc.2 h x1 x2 x3 x4 x5 = some res → Q (some (.int res.1)) res.2 → m_Words_runBody (d + 1) [.ref 27, .int x1, .int x2, .int x3, .int x4, .int x5] h Q) (e : f_Words_runBody_344 rc h = some res) (q : Q (some (.int res.1)) res.2) : am_W (X_Words_runBody (d + 1 + 1)) 344 [some (.ref 27), some (.int x1), some (.int x2), some (.int x3), some (.int x4), some (.int x5), some (.int x6), some (.int x7)] [] h Q :=
  b_Words_runBody_344 (d := (d + 1 + 1)) (q := (am_rIpi (v := 0) e q))
theorem t_Words_runBody_23 {d : Nat} {rc : rc_Words_call} {x1 : Int32} {x2 : Int32} {x3 : Int32} {x4 : Int32} {x5 : Int32} {x6 : Int32} {y0 : Int32} {h : am_H} {Q : am_Q} {res : Int32 × am_H} (hr0 : ∀ {x1 : Int32} {x2 : Int32} {x3 : Int32} {x4 : Int32} {x5 : Int32} {h : am_H} {Q : am_Q} {res : Int32 × am_H}, rc.1 h x1 x2 x3 x4 x5 = some res → Q (some (.int res.1)) res.2 → m_Words_call (d + 1) [.ref 27, .int x1, .int x2, .int x3, .int x4, .int x5] h Q) (hr1 : ∀ {x1 : Int32} {x2 : Int32} {x3 : Int32} {x4 : Int32} {x5 : Int32} {h : am_H} {Q : am_Q} {res : Int32 × am_H}, rc.2 h x1 x2 x3 x4 x5 = some res → Q (some (.int res.1)) res.2 → m_Words_runBody (d + 1) [.ref 27, .int x1, .int x2, .int x3, .int x4, .int x5] h Q) (e : f_Words_runBody_23 rc h x1 x2 x4 x5 x6 y0 = some res) (q : Q (some (.int res.1)) res.2) : am_W (X_Words_runBody (d + 1 + 1)) 23 [some (.ref 27), some (.int x1), some (.int x2), some (.int x3), some (.int x4), some (.int x5), some (.int x6), none] [.int y0] h Q :=
  b_Words_runBody_23 (d := (d + 1 + 1)) (k1 := fun c => (t_Words_runBody_140 hr0 hr1 (am_ift e c) q)) (k2 := fun c => (t_Words_runBody_145 hr0 hr1 (am_ift (am_ife e (fun z => absurd (c.symm.trans z) (by decide))) c) q)) (k10 := fun c => (t_Words_runBody_170 hr0 hr1 (am_ift (am_ife (am_ife e (fun z => absurd (c.symm.trans z) (by decide))) (fun z => absurd (c.symm.trans z) (by decide))) c) q)) (k11 := fun c => (t_Words_runBody_185 hr0 hr1 (am_ift (am_ife (am_ife (am_ife e (fun z => absurd (c.symm.trans z) (by decide))) (fun z => absurd (c.symm.trans z) (by decide))) (fun z => absurd (c.symm.trans z) (by decide))) c) q)) (k20 := fun c => (t_Words_runBody_190 hr0 hr1 (am_ift (am_ife (am_ife (am_ife (am_ife e (fun z => absurd (c.symm.trans z) (by decide))) (fun z => absurd (c.symm.trans z) (by decide))) (fun z => absurd (c.symm.trans z) (by decide))) (fun z => absurd (c.symm.trans z) (by decide))) c) q)) (k30 := fun c => (t_Words_runBody_205 hr0 hr1 (am_ift (am_ife (am_ife (am_ife (am_ife (am_ife e (fun z => absurd (c.symm.trans z) (by decide))) (fun z => absurd (c.symm.trans z) (by decide))) (fun z => absurd (c.symm.trans z) (by decide))) (fun z => absurd (c.symm.trans z) (by decide))) (fun z => absurd (c.symm.trans z) (by decide))) c) q)) (k40 := fun c => (t_Words_runBody_219 hr0 hr1 (am_ift (am_ife (am_ife (am_ife (am_ife (am_ife (am_ife e (fun z => absurd (c.symm.trans z) (by decide))) (fun z => absurd (c.symm.trans z) (by decide))) (fun z => absurd (c.symm.trans z) (by decide))) (fun z => absurd (c.symm.trans z) (by decide))) (fun z => absurd (c.symm.trans z) (by decide))) (fun z => absurd (c.symm.trans z) (by decide))) c) q)) (k41 := fun c => (t_Words_runBody_234 hr0 hr1 (am_ift (am_ife (am_ife (am_ife (am_ife (am_ife (am_ife (am_ife e (fun z => absurd (c.symm.trans z) (by decide))) (fun z => absurd (c.symm.trans z) (by decide))) (fun z => absurd (c.symm.trans z) (by decide))) (fun z => absurd (c.symm.trans z) (by decide))) (fun z => absurd (c.symm.trans z) (by decide))) (fun z => absurd (c.symm.trans z) (by decide))) (fun z => absurd (c.symm.trans z) (by decide))) c) q)) (k50 := fun c => (t_Words_runBody_249 hr0 hr1 (am_ift (am_ife (am_ife (am_ife (am_ife (am_ife (am_ife (am_ife (am_ife e (fun z => absurd (c.symm.trans z) (by decide))) (fun z => absurd (c.symm.trans z) (by decide))) (fun z => absurd (c.symm.trans z) (by decide))) (fun z => absurd (c.symm.trans z) (by decide))) (fun z => absurd (c.symm.trans z) (by decide))) (fun z => absurd (c.symm.trans z) (by decide))) (fun z => absurd (c.symm.trans z) (by decide))) (fun z => absurd (c.symm.trans z) (by decide))) c) q)) (k60 := fun c => (t_Words_runBody_274 hr0 hr1 (am_ift (am_ife (am_ife (am_ife (am_ife (am_ife (am_ife (am_ife (am_ife (am_ife e (fun z => absurd (c.symm.trans z) (by decide))) (fun z => absurd (c.symm.trans z) (by decide))) (fun z => absurd (c.symm.trans z) (by decide))) (fun z => absurd (c.symm.trans z) (by decide))) (fun z => absurd (c.symm.trans z) (by decide))) (fun z => absurd (c.symm.trans z) (by decide))) (fun z => absurd (c.symm.trans z) (by decide))) (fun z => absurd (c.symm.trans z) (by decide))) (fun z => absurd (c.symm.trans z) (by decide))) c) q)) (k70 := fun c => (t_Words_runBody_289 hr0 hr1 (am_ift (am_ife (am_ife (am_ife (am_ife (am_ife (am_ife (am_ife (am_ife (am_ife (am_ife e (fun z => absurd (c.symm.trans z) (by decide))) (fun z => absurd (c.symm.trans z) (by decide))) (fun z => absurd (c.symm.trans z) (by decide))) (fun z => absurd (c.symm.trans z) (by decide))) (fun z => absurd (c.symm.trans z) (by decide))) (fun z => absurd (c.symm.trans z) (by decide))) (fun z => absurd (c.symm.trans z) (by decide))) (fun z => absurd (c.symm.trans z) (by decide))) (fun z => absurd (c.symm.trans z) (by decide))) (fun z => absurd (c.symm.trans z) (by decide))) c) q)) (k80 := fun c => (t_Words_runBody_304 hr0 hr1 (am_ift (am_ife (am_ife (am_ife (am_ife (am_ife (am_ife (am_ife (am_ife (am_ife (am_ife (am_ife e (fun z => absurd (c.symm.trans z) (by decide))) (fun z => absurd (c.symm.trans z) (by decide))) (fun z => absurd (c.symm.trans z) (by decide))) (fun z => absurd (c.symm.trans z) (by decide))) (fun z => absurd (c.symm.trans z) (by decide))) (fun z => absurd (c.symm.trans z) (by decide))) (fun z => absurd (c.symm.trans z) (by decide))) (fun z => absurd (c.symm.trans z) (by decide))) (fun z => absurd (c.symm.trans z) (by decide))) (fun z => absurd (c.symm.trans z) (by decide))) (fun z => absurd (c.symm.trans z) (by decide))) c) q)) (k81 := fun c => (t_Words_runBody_329 hr0 hr1 (am_ift (am_ife (am_ife (am_ife (am_ife (am_ife (am_ife (am_ife (am_ife (am_ife (am_ife (am_ife (am_ife e (fun z => absurd (c.symm.trans z) (by decide))) (fun z => absurd (c.symm.trans z) (by decide))) (fun z => absurd (c.symm.trans z) (by decide))) (fun z => absurd (c.symm.trans z) (by decide))) (fun z => absurd (c.symm.trans z) (by decide))) (fun z => absurd (c.symm.trans z) (by decide))) (fun z => absurd (c.symm.trans z) (by decide))) (fun z => absurd (c.symm.trans z) (by decide))) (fun z => absurd (c.symm.trans z) (by decide))) (fun z => absurd (c.symm.trans z) (by decide))) (fun z => absurd (c.symm.trans z) (by decide))) (fun z => absurd (c.symm.trans z) (by decide))) c) q)) (kd := fun c0 c1 c2 c3 c4 c5 c6 c7 c8 c9 c10 c11 c12 => (t_Words_runBody_344 hr0 hr1 (am_ife (am_ife (am_ife (am_ife (am_ife (am_ife (am_ife (am_ife (am_ife (am_ife (am_ife (am_ife (am_ife e c0) c1) c2) c3) c4) c5) c6) c7) c8) c9) c10) c11) c12) q))
theorem t_Words_runBody_22 {d : Nat} {rc : rc_Words_call} {x1 : Int32} {x2 : Int32} {x3 : Int32} {x4 : Int32} {x5 : Int32} {x6 : Int32} {h : am_H} {Q : am_Q} {res : Int32 × am_H} (hr0 : ∀ {x1 : Int32} {x2 : Int32} {x3 : Int32} {x4 : Int32} {x5 : Int32} {h : am_H} {Q : am_Q} {res : Int32 × am_H}, rc.1 h x1 x2 x3 x4 x5 = some res → Q (some (.int res.1)) res.2 → m_Words_call (d + 1) [.ref 27, .int x1, .int x2, .int x3, .int x4, .int x5] h Q) (hr1 : ∀ {x1 : Int32} {x2 : Int32} {x3 : Int32} {x4 : Int32} {x5 : Int32} {h : am_H} {Q : am_Q} {res : Int32 × am_H}, rc.2 h x1 x2 x3 x4 x5 = some res → Q (some (.int res.1)) res.2 → m_Words_runBody (d + 1) [.ref 27, .int x1, .int x2, .int x3, .int x4, .int x5] h Q) (e : f_Words_runBody_22 rc h x1 x2 x4 x5 x6 = some res) (q : Q (some (.int res.1)) res.2) : am_W (X_Words_runBody (d + 1 + 1)) 22 [some (.ref 27), some (.int x1), some (.int x2), some (.int x3), some (.int x4), some (.int x5), some (.int x6), none] [] h Q :=
  b_Words_runBody_22 (d := (d + 1 + 1)) (k := (t_Words_runBody_23 hr0 hr1 e q))
theorem t_Words_runBody_14 {d : Nat} {rc : rc_Words_call} {x1 : Int32} {x2 : Int32} {x3 : Int32} {x4 : Int32} {x5 : Int32} {x6 : Int32} {h : am_H} {Q : am_Q} {res : Int32 × am_H} (hr0 : ∀ {x1 : Int32} {x2 : Int32} {x3 : Int32} {x4 : Int32} {x5 : Int32} {h : am_H} {Q : am_Q} {res : Int32 × am_H}, rc.1 h x1 x2 x3 x4 x5 = some res → Q (some (.int res.1)) res.2 → m_Words_call (d + 1) [.ref 27, .int x1, .int x2, .int x3, .int x4, .int x5] h Q) (hr1 : ∀ {x1 : Int32} {x2 : Int32} {x3 : Int32} {x4 : Int32} {x5 : Int32} {h : am_H} {Q : am_Q} {res : Int32 × am_H}, rc.2 h x1 x2 x3 x4 x5 = some res → Q (some (.int res.1)) res.2 → m_Words_runBody (d + 1) [.ref 27, .int x1, .int x2, .int x3, .int x4, .int x5] h Q) (e : f_Words_runBody_14 rc h x1 x2 x3 x4 x5 x6 = some res) (q : Q (some (.int res.1)) res.2) : am_W (X_Words_runBody (d + 1 + 1)) 14 [some (.ref 27), some (.int x1), some (.int x2), some (.int x3), some (.int x4), some (.int x5), some (.int x6), none] [] h Q :=
  b_Words_runBody_14 (d := (d + 1 + 1)) (q0 := (am_okv (am_gd e))) (k := (t_Words_runBody_23 hr0 hr1 (am_ga e) q))
theorem t_Words_runBody_11 {d : Nat} {rc : rc_Words_call} {x1 : Int32} {x2 : Int32} {x3 : Int32} {x4 : Int32} {x5 : Int32} {x6 : Int32} {y0 : Bool} {h : am_H} {Q : am_Q} {res : Int32 × am_H} (hr0 : ∀ {x1 : Int32} {x2 : Int32} {x3 : Int32} {x4 : Int32} {x5 : Int32} {h : am_H} {Q : am_Q} {res : Int32 × am_H}, rc.1 h x1 x2 x3 x4 x5 = some res → Q (some (.int res.1)) res.2 → m_Words_call (d + 1) [.ref 27, .int x1, .int x2, .int x3, .int x4, .int x5] h Q) (hr1 : ∀ {x1 : Int32} {x2 : Int32} {x3 : Int32} {x4 : Int32} {x5 : Int32} {h : am_H} {Q : am_Q} {res : Int32 × am_H}, rc.2 h x1 x2 x3 x4 x5 = some res → Q (some (.int res.1)) res.2 → m_Words_runBody (d + 1) [.ref 27, .int x1, .int x2, .int x3, .int x4, .int x5] h Q) (e : f_Words_runBody_11 rc h x1 x2 x3 x4 x5 x6 y0 = some res) (q : Q (some (.int res.1)) res.2) : am_W (X_Words_runBody (d + 1 + 1)) 11 [some (.ref 27), some (.int x1), some (.int x2), some (.int x3), some (.int x4), some (.int x5), some (.int x6), none] [.int (am_b y0)] h Q :=
  b_Words_runBody_11 (d := (d + 1 + 1)) (kt := fun c => (t_Words_runBody_22 hr0 hr1 (am_iff e (am_bz c)) q)) (kf := fun c => (t_Words_runBody_14 hr0 hr1 (am_ift e (am_bn c)) q))
theorem t_Words_runBody_5 {d : Nat} {rc : rc_Words_call} {x1 : Int32} {x2 : Int32} {x3 : Int32} {x4 : Int32} {x5 : Int32} {y0 : Int32} {h : am_H} {Q : am_Q} {res : Int32 × am_H} (hr0 : ∀ {x1 : Int32} {x2 : Int32} {x3 : Int32} {x4 : Int32} {x5 : Int32} {h : am_H} {Q : am_Q} {res : Int32 × am_H}, rc.1 h x1 x2 x3 x4 x5 = some res → Q (some (.int res.1)) res.2 → m_Words_call (d + 1) [.ref 27, .int x1, .int x2, .int x3, .int x4, .int x5] h Q) (hr1 : ∀ {x1 : Int32} {x2 : Int32} {x3 : Int32} {x4 : Int32} {x5 : Int32} {h : am_H} {Q : am_Q} {res : Int32 × am_H}, rc.2 h x1 x2 x3 x4 x5 = some res → Q (some (.int res.1)) res.2 → m_Words_runBody (d + 1) [.ref 27, .int x1, .int x2, .int x3, .int x4, .int x5] h Q) (e : f_Words_runBody_5 rc h x1 x2 x3 x4 x5 y0 = some res) (q : Q (some (.int res.1)) res.2) : am_W (X_Words_runBody (d + 1 + 1)) 5 [some (.ref 27), some (.int x1), some (.int x2), some (.int x3), some (.int x4), some (.int x5), none, none] [.int y0] h Q :=
  b_Words_runBody_5 (d := (d + 1)) (k := c_Words_isKind (d := d + 1) rfl (t_Words_runBody_11 hr0 hr1 e q))
theorem t_Words_runBody_0 {d : Nat} {rc : rc_Words_call} {x1 : Int32} {x2 : Int32} {x3 : Int32} {x4 : Int32} {x5 : Int32} {h : am_H} {Q : am_Q} {res : Int32 × am_H} (hr0 : ∀ {x1 : Int32} {x2 : Int32} {x3 : Int32} {x4 : Int32} {x5 : Int32} {h : am_H} {Q : am_Q} {res : Int32 × am_H}, rc.1 h x1 x2 x3 x4 x5 = some res → Q (some (.int res.1)) res.2 → m_Words_call (d + 1) [.ref 27, .int x1, .int x2, .int x3, .int x4, .int x5] h Q) (hr1 : ∀ {x1 : Int32} {x2 : Int32} {x3 : Int32} {x4 : Int32} {x5 : Int32} {h : am_H} {Q : am_Q} {res : Int32 × am_H}, rc.2 h x1 x2 x3 x4 x5 = some res → Q (some (.int res.1)) res.2 → m_Words_runBody (d + 1) [.ref 27, .int x1, .int x2, .int x3, .int x4, .int x5] h Q) (e : f_Words_runBody_0 rc h x1 x2 x3 x4 x5 = some res) (q : Q (some (.int res.1)) res.2) : am_W (X_Words_runBody (d + 1 + 1)) 0 [some (.ref 27), some (.int x1), some (.int x2), some (.int x3), some (.int x4), some (.int x5), none, none] [] h Q :=
  (am_bd e).elim fun p hp => b_Words_runBody_0 (d := (d + 1)) (k := c_Words_kindOf (d := d) hp.1 (t_Words_runBody_5 hr0 hr1 hp.2 q))
theorem s_Words_call : ∀ (n : Nat) {d D : Nat}, D = d + n + 1 → (∀ {x1 : Int32} {x2 : Int32} {x3 : Int32} {x4 : Int32} {x5 : Int32} {h : am_H} {Q : am_Q} {res : Int32 × am_H}, (g_Words_call n).1 h x1 x2 x3 x4 x5 = some res → Q (some (.int res.1)) res.2 → m_Words_call D [.ref 27, .int x1, .int x2, .int x3, .int x4, .int x5] h Q) ∧ (∀ {x1 : Int32} {x2 : Int32} {x3 : Int32} {x4 : Int32} {x5 : Int32} {h : am_H} {Q : am_Q} {res : Int32 × am_H}, (g_Words_call n).2 h x1 x2 x3 x4 x5 = some res → Q (some (.int res.1)) res.2 → m_Words_runBody D [.ref 27, .int x1, .int x2, .int x3, .int x4, .int x5] h Q) := by
  intro n
  induction n with
  | zero =>
    intro d D hD
    refine ⟨?_, ?_⟩
    · intro x1 x2 x3 x4 x5 h Q res  e q; exact am_nn e
    · intro x1 x2 x3 x4 x5 h Q res  e q; exact am_nn e
  | succ n ih =>
    intro d D hD
    obtain rfl : D = d + n + 1 + 1 := by omega
    obtain ⟨i0, i1⟩ := ih (d := d) rfl
    refine ⟨?_, ?_⟩
    · intro x1 x2 x3 x4 x5 h Q res  e q; exact e_Words_call (t_Words_call_0 (d := d + n) i0 i1 e q)
    · intro x1 x2 x3 x4 x5 h Q res  e q; exact e_Words_runBody (t_Words_runBody_0 (d := d + n) i0 i1 e q)

theorem c_Words_call {d : Nat} {x1 : Int32} {x2 : Int32} {x3 : Int32} {x4 : Int32} {x5 : Int32} {h : am_H} {Q : am_Q} {res : Int32 × am_H} (e : f_Words_call h x1 x2 x3 x4 x5 = some res) (q : Q (some (.int res.1)) res.2) : m_Words_call (d + 65) [.ref 27, .int x1, .int x2, .int x3, .int x4, .int x5] h Q :=
  (s_Words_call 64 (d := d) (D := d + 65) rfl).1 e q
theorem c_Words_runBody {d : Nat} {x1 : Int32} {x2 : Int32} {x3 : Int32} {x4 : Int32} {x5 : Int32} {h : am_H} {Q : am_Q} {res : Int32 × am_H} (e : f_Words_runBody h x1 x2 x3 x4 x5 = some res) (q : Q (some (.int res.1)) res.2) : m_Words_runBody (d + 65) [.ref 27, .int x1, .int x2, .int x3, .int x4, .int x5] h Q :=
  (s_Words_call 64 (d := d) (D := d + 65) rfl).2 e q
theorem d_Words_perform_0 : decode prog_10_method_12_code 0 = .ok (.aload_n 0, 1) := by decide +kernel
theorem d_Words_perform_1 : decode prog_10_method_12_code 1 = .ok (.iconst 0, 1) := by decide +kernel
theorem d_Words_perform_2 : decode prog_10_method_12_code 2 = .ok (.putfield 22, 3) := by decide +kernel
theorem d_Words_perform_5 : decode prog_10_method_12_code 5 = .ok (.aload_n 0, 1) := by decide +kernel
theorem d_Words_perform_6 : decode prog_10_method_12_code 6 = .ok (.iload_n 1, 1) := by decide +kernel
theorem d_Words_perform_7 : decode prog_10_method_12_code 7 = .ok (.invokevirtual 32, 3) := by decide +kernel
theorem d_Words_perform_10 : decode prog_10_method_12_code 10 = .ok (.ifCond .eq 12, 3) := by decide +kernel
theorem d_Words_perform_13 : decode prog_10_method_12_code 13 = .ok (.iload_n 2, 1) := by decide +kernel
theorem d_Words_perform_14 : decode prog_10_method_12_code 14 = .ok (.ifCond .lt 8, 3) := by decide +kernel
theorem d_Words_perform_17 : decode prog_10_method_12_code 17 = .ok (.iload_n 2, 1) := by decide +kernel
theorem d_Words_perform_18 : decode prog_10_method_12_code 18 = .ok (.iconst 4, 1) := by decide +kernel
theorem d_Words_perform_19 : decode prog_10_method_12_code 19 = .ok (.if_icmp .lt 5, 3) := by decide +kernel
theorem d_Words_perform_22 : decode prog_10_method_12_code 22 = .ok (.iconst 0, 1) := by decide +kernel
theorem d_Words_perform_23 : decode prog_10_method_12_code 23 = .ok (.ireturn, 1) := by decide +kernel
theorem d_Words_perform_24 : decode prog_10_method_12_code 24 = .ok (.aload_n 0, 1) := by decide +kernel
theorem d_Words_perform_25 : decode prog_10_method_12_code 25 = .ok (.iload_n 1, 1) := by decide +kernel
theorem d_Words_perform_26 : decode prog_10_method_12_code 26 = .ok (.aload_n 0, 1) := by decide +kernel
theorem d_Words_perform_27 : decode prog_10_method_12_code 27 = .ok (.iload_n 1, 1) := by decide +kernel
theorem d_Words_perform_28 : decode prog_10_method_12_code 28 = .ok (.invokevirtual 41, 3) := by decide +kernel
theorem d_Words_perform_31 : decode prog_10_method_12_code 31 = .ok (.iload_n 2, 1) := by decide +kernel
theorem d_Words_perform_32 : decode prog_10_method_12_code 32 = .ok (.iload_n 3, 1) := by decide +kernel
theorem d_Words_perform_33 : decode prog_10_method_12_code 33 = .ok (.iconst 0, 1) := by decide +kernel
theorem d_Words_perform_34 : decode prog_10_method_12_code 34 = .ok (.invokevirtual 45, 3) := by decide +kernel
theorem d_Words_perform_37 : decode prog_10_method_12_code 37 = .ok (.ireturn, 1) := by decide +kernel
theorem b_Words_perform_0 {d : Nat} {x1 : Int32} {x2 : Int32} {x3 : Int32} {h : am_H} {Q : am_Q} (k : m_Words_hasWord d [.ref 27, .int x1] (am_pI h 27 3 0) (fun r hh => am_W (X_Words_perform (d + 1)) 10 [some (.ref 27), some (.int x1), some (.int x2), some (.int x3)] (r.toList ++ []) hh Q)) : am_W (X_Words_perform (d + 1)) 0 [some (.ref 27), some (.int x1), some (.int x2), some (.int x3)] [] h Q :=
  am_aload_n d_Words_perform_0 rfl (i := 0) rfl <|
    am_iconst (v := 0) d_Words_perform_1 (by decide) <|
    am_putI (ci := 8) (i := 3) rfl rfl rfl (Nat.le_of_ble_eq_true rfl) w_332 rfl rfl rfl d_Words_perform_2 <|
    am_aload_n d_Words_perform_5 rfl (i := 0) rfl <|
    am_iload_n d_Words_perform_6 rfl (i := 1) rfl <|
    am_callV (vs := [.int x1]) (st := []) (k := 27) (ci := 8) rfl d_Words_perform_7 rfl rfl w_1168 w_1169 w_1170 w_92 w_1171 p_Words_hasWord (Nat.le_of_ble_eq_true rfl) (Nat.le_of_ble_eq_true rfl) rfl k
theorem b_Words_perform_10 {d : Nat} {x1 : Int32} {x2 : Int32} {x3 : Int32} {y0 : Bool} {h : am_H} {Q : am_Q} (kt : (am_b y0) = 0 → am_W (X_Words_perform d) 22 [some (.ref 27), some (.int x1), some (.int x2), some (.int x3)] [] h Q) (kf : ¬ (am_b y0) = 0 → am_W (X_Words_perform d) 13 [some (.ref 27), some (.int x1), some (.int x2), some (.int x3)] [] h Q) : am_W (X_Words_perform d) 10 [some (.ref 27), some (.int x1), some (.int x2), some (.int x3)] [.int (am_b y0)] h Q :=
  am_if_eq (tgt := 22) d_Words_perform_10 (by decide) kt kf
theorem b_Words_perform_13 {d : Nat} {x1 : Int32} {x2 : Int32} {x3 : Int32} {h : am_H} {Q : am_Q} (kt : x2 < 0 → am_W (X_Words_perform d) 22 [some (.ref 27), some (.int x1), some (.int x2), some (.int x3)] [] h Q) (kf : ¬ x2 < 0 → am_W (X_Words_perform d) 17 [some (.ref 27), some (.int x1), some (.int x2), some (.int x3)] [] h Q) : am_W (X_Words_perform d) 13 [some (.ref 27), some (.int x1), some (.int x2), some (.int x3)] [] h Q :=
  am_iload_n d_Words_perform_13 rfl (i := 2) rfl <|
    am_if_lt (tgt := 22) d_Words_perform_14 (by decide) kt kf
theorem b_Words_perform_17 {d : Nat} {x1 : Int32} {x2 : Int32} {x3 : Int32} {h : am_H} {Q : am_Q} (kt : x2 < 4 → am_W (X_Words_perform d) 24 [some (.ref 27), some (.int x1), some (.int x2), some (.int x3)] [] h Q) (kf : ¬ x2 < 4 → am_W (X_Words_perform d) 22 [some (.ref 27), some (.int x1), some (.int x2), some (.int x3)] [] h Q) : am_W (X_Words_perform d) 17 [some (.ref 27), some (.int x1), some (.int x2), some (.int x3)] [] h Q :=
  am_iload_n d_Words_perform_17 rfl (i := 2) rfl <|
    am_iconst (v := 4) d_Words_perform_18 (by decide) <|
    am_icmp_lt (tgt := 24) d_Words_perform_19 (by decide) kt kf
theorem b_Words_perform_22 {d : Nat} {x1 : Int32} {x2 : Int32} {x3 : Int32} {h : am_H} {Q : am_Q} (q : Q (some (.int 0)) h) : am_W (X_Words_perform d) 22 [some (.ref 27), some (.int x1), some (.int x2), some (.int x3)] [] h Q :=
  am_iconst (v := 0) d_Words_perform_22 (by decide) <|
    am_iret rfl d_Words_perform_23 q
theorem b_Words_perform_24 {d : Nat} {x1 : Int32} {x2 : Int32} {x3 : Int32} {h : am_H} {Q : am_Q} (k : m_Words_kindOf d [.ref 27, .int x1] h (fun r hh => am_W (X_Words_perform (d + 1)) 31 [some (.ref 27), some (.int x1), some (.int x2), some (.int x3)] (r.toList ++ [.int x1, .ref 27]) hh Q)) : am_W (X_Words_perform (d + 1)) 24 [some (.ref 27), some (.int x1), some (.int x2), some (.int x3)] [] h Q :=
  am_aload_n d_Words_perform_24 rfl (i := 0) rfl <|
    am_iload_n d_Words_perform_25 rfl (i := 1) rfl <|
    am_aload_n d_Words_perform_26 rfl (i := 0) rfl <|
    am_iload_n d_Words_perform_27 rfl (i := 1) rfl <|
    am_callV (vs := [.int x1]) (st := [.int x1, .ref 27]) (k := 27) (ci := 8) rfl d_Words_perform_28 rfl rfl w_1172 w_1173 w_1174 w_92 w_1175 p_Words_kindOf (Nat.le_of_ble_eq_true rfl) (Nat.le_of_ble_eq_true rfl) rfl k
theorem b_Words_perform_31 {d : Nat} {x1 : Int32} {x2 : Int32} {x3 : Int32} {y2 : Int32} {y1 : Int32} {h : am_H} {Q : am_Q} (k : m_Words_call d [.ref 27, .int y1, .int y2, .int x2, .int x3, .int 0] h (fun r hh => am_W (X_Words_perform (d + 1)) 37 [some (.ref 27), some (.int x1), some (.int x2), some (.int x3)] (r.toList ++ []) hh Q)) : am_W (X_Words_perform (d + 1)) 31 [some (.ref 27), some (.int x1), some (.int x2), some (.int x3)] [.int y2, .int y1, .ref 27] h Q :=
  am_iload_n d_Words_perform_31 rfl (i := 2) rfl <|
    am_iload_n d_Words_perform_32 rfl (i := 3) rfl <|
    am_iconst (v := 0) d_Words_perform_33 (by decide) <|
    am_callV (vs := [.int y1, .int y2, .int x2, .int x3, .int 0]) (st := []) (k := 27) (ci := 8) rfl d_Words_perform_34 rfl rfl w_1176 w_1178 w_29 w_92 w_1179 p_Words_call (Nat.le_of_ble_eq_true rfl) (Nat.le_of_ble_eq_true rfl) rfl k
theorem b_Words_perform_37 {d : Nat} {x1 : Int32} {x2 : Int32} {x3 : Int32} {y0 : Int32} {h : am_H} {Q : am_Q} (q : Q (some (.int y0)) h) : am_W (X_Words_perform d) 37 [some (.ref 27), some (.int x1), some (.int x2), some (.int x3)] [.int y0] h Q :=
  am_iret rfl d_Words_perform_37 q
theorem t_Words_perform_22 {d : Nat} {x1 : Int32} {x2 : Int32} {x3 : Int32} {h : am_H} {Q : am_Q} {res : Int32 × am_H} (e : f_Words_perform_22 h = some res) (q : Q (some (.int res.1)) res.2) : am_W (X_Words_perform (d + 66)) 22 [some (.ref 27), some (.int x1), some (.int x2), some (.int x3)] [] h Q :=
  b_Words_perform_22 (d := (d + 66)) (q := (am_rIpi (v := 0) e q))
theorem t_Words_perform_37 {d : Nat} {x1 : Int32} {x2 : Int32} {x3 : Int32} {y0 : Int32} {h : am_H} {Q : am_Q} {res : Int32 × am_H} (e : f_Words_perform_37 h y0 = some res) (q : Q (some (.int res.1)) res.2) : am_W (X_Words_perform (d + 66)) 37 [some (.ref 27), some (.int x1), some (.int x2), some (.int x3)] [.int y0] h Q :=
  b_Words_perform_37 (d := (d + 66)) (q := (am_rIpi (v := y0) e q))
theorem t_Words_perform_31 {d : Nat} {x1 : Int32} {x2 : Int32} {x3 : Int32} {y2 : Int32} {y1 : Int32} {h : am_H} {Q : am_Q} {res : Int32 × am_H} (e : f_Words_perform_31 h x2 x3 y2 y1 = some res) (q : Q (some (.int res.1)) res.2) : am_W (X_Words_perform (d + 66)) 31 [some (.ref 27), some (.int x1), some (.int x2), some (.int x3)] [.int y2, .int y1, .ref 27] h Q :=
  (am_bd e).elim fun p hp => b_Words_perform_31 (d := (d + 65)) (k := c_Words_call (d := d) hp.1 (t_Words_perform_37 hp.2 q))
theorem t_Words_perform_24 {d : Nat} {x1 : Int32} {x2 : Int32} {x3 : Int32} {h : am_H} {Q : am_Q} {res : Int32 × am_H} (e : f_Words_perform_24 h x1 x2 x3 = some res) (q : Q (some (.int res.1)) res.2) : am_W (X_Words_perform (d + 66)) 24 [some (.ref 27), some (.int x1), some (.int x2), some (.int x3)] [] h Q :=
  (am_bd e).elim fun p hp => b_Words_perform_24 (d := (d + 65)) (k := c_Words_kindOf (d := d + 64) hp.1 (t_Words_perform_31 hp.2 q))
theorem t_Words_perform_17 {d : Nat} {x1 : Int32} {x2 : Int32} {x3 : Int32} {h : am_H} {Q : am_Q} {res : Int32 × am_H} (e : f_Words_perform_17 h x1 x2 x3 = some res) (q : Q (some (.int res.1)) res.2) : am_W (X_Words_perform (d + 66)) 17 [some (.ref 27), some (.int x1), some (.int x2), some (.int x3)] [] h Q :=
  b_Words_perform_17 (d := (d + 66)) (kt := fun c => (t_Words_perform_24 (am_ift e c) q)) (kf := fun c => (t_Words_perform_22 (am_ife e c) q))
theorem t_Words_perform_13 {d : Nat} {x1 : Int32} {x2 : Int32} {x3 : Int32} {h : am_H} {Q : am_Q} {res : Int32 × am_H} (e : f_Words_perform_13 h x1 x2 x3 = some res) (q : Q (some (.int res.1)) res.2) : am_W (X_Words_perform (d + 66)) 13 [some (.ref 27), some (.int x1), some (.int x2), some (.int x3)] [] h Q :=
  b_Words_perform_13 (d := (d + 66)) (kt := fun c => (t_Words_perform_22 (am_ift e c) q)) (kf := fun c => (t_Words_perform_17 (am_ife e c) q))
theorem t_Words_perform_10 {d : Nat} {x1 : Int32} {x2 : Int32} {x3 : Int32} {y0 : Bool} {h : am_H} {Q : am_Q} {res : Int32 × am_H} (e : f_Words_perform_10 h x1 x2 x3 y0 = some res) (q : Q (some (.int res.1)) res.2) : am_W (X_Words_perform (d + 66)) 10 [some (.ref 27), some (.int x1), some (.int x2), some (.int x3)] [.int (am_b y0)] h Q :=
  b_Words_perform_10 (d := (d + 66)) (kt := fun c => (t_Words_perform_22 (am_iff e (am_bz c)) q)) (kf := fun c => (t_Words_perform_13 (am_ift e (am_bn c)) q))
theorem t_Words_perform_0 {d : Nat} {x1 : Int32} {x2 : Int32} {x3 : Int32} {h : am_H} {Q : am_Q} {res : Int32 × am_H} (e : f_Words_perform h x1 x2 x3 = some res) (q : Q (some (.int res.1)) res.2) : am_W (X_Words_perform (d + 66)) 0 [some (.ref 27), some (.int x1), some (.int x2), some (.int x3)] [] h Q :=
  b_Words_perform_0 (d := (d + 65)) (k := c_Words_hasWord (d := d + 65) rfl (t_Words_perform_10 e q))
theorem c_Words_perform {d : Nat} {x1 : Int32} {x2 : Int32} {x3 : Int32} {h : am_H} {Q : am_Q} {res : Int32 × am_H} (e : f_Words_perform h x1 x2 x3 = some res) (q : Q (some (.int res.1)) res.2) : m_Words_perform (d + 66) [.ref 27, .int x1, .int x2, .int x3] h Q :=
  e_Words_perform (t_Words_perform_0 e q)
theorem d_Club_act_0 : decode prog_1_method_33_code 0 = .ok (.aload_n 0, 1) := by decide +kernel
theorem d_Club_act_1 : decode prog_1_method_33_code 1 = .ok (.getfield 69, 3) := by decide +kernel
theorem d_Club_act_4 : decode prog_1_method_33_code 4 = .ok (.iload_n 1, 1) := by decide +kernel
theorem d_Club_act_5 : decode prog_1_method_33_code 5 = .ok (.iload_n 2, 1) := by decide +kernel
theorem d_Club_act_6 : decode prog_1_method_33_code 6 = .ok (.iload_n 3, 1) := by decide +kernel
theorem d_Club_act_7 : decode prog_1_method_33_code 7 = .ok (.invokevirtual 321, 3) := by decide +kernel
theorem d_Club_act_10 : decode prog_1_method_33_code 10 = .ok (.ireturn, 1) := by decide +kernel
theorem b_Club_act_0 {d : Nat} {x1 : Int32} {x2 : Int32} {x3 : Int32} {h : am_H} {Q : am_Q} (k : m_Words_perform d [.ref 27, .int x1, .int x2, .int x3] h (fun r hh => am_W (X_Club_act (d + 1)) 10 [some (.ref 0), some (.int x1), some (.int x2), some (.int x3)] (r.toList ++ []) hh Q)) : am_W (X_Club_act (d + 1)) 0 [some (.ref 0), some (.int x1), some (.int x2), some (.int x3)] [] h Q :=
  am_aload_n d_Club_act_0 rfl (i := 0) rfl <|
    am_getR (ci := 0) (i := 7) rfl rfl rfl (Nat.le_of_ble_eq_true rfl) w_369 d_Club_act_1 <|
    am_iload_n d_Club_act_4 rfl (i := 1) rfl <|
    am_iload_n d_Club_act_5 rfl (i := 2) rfl <|
    am_iload_n d_Club_act_6 rfl (i := 3) rfl <|
    am_callV (vs := [.int x1, .int x2, .int x3]) (st := []) (k := 27) (ci := 8) rfl d_Club_act_7 rfl rfl w_1164 w_1165 w_1166 w_92 w_1167 p_Words_perform (Nat.le_of_ble_eq_true rfl) (Nat.le_of_ble_eq_true rfl) rfl k
theorem b_Club_act_10 {d : Nat} {x1 : Int32} {x2 : Int32} {x3 : Int32} {y0 : Int32} {h : am_H} {Q : am_Q} (q : Q (some (.int y0)) h) : am_W (X_Club_act d) 10 [some (.ref 0), some (.int x1), some (.int x2), some (.int x3)] [.int y0] h Q :=
  am_iret rfl d_Club_act_10 q
theorem t_Club_act_10 {d : Nat} {x1 : Int32} {x2 : Int32} {x3 : Int32} {y0 : Int32} {h : am_H} {Q : am_Q} {res : Int32 × am_H} (e : f_Club_act_10 h y0 = some res) (q : Q (some (.int res.1)) res.2) : am_W (X_Club_act (d + 67)) 10 [some (.ref 0), some (.int x1), some (.int x2), some (.int x3)] [.int y0] h Q :=
  b_Club_act_10 (d := (d + 67)) (q := (am_rIpi (v := y0) e q))
theorem t_Club_act_0 {d : Nat} {x1 : Int32} {x2 : Int32} {x3 : Int32} {h : am_H} {Q : am_Q} {res : Int32 × am_H} (e : f_Club_act h x1 x2 x3 = some res) (q : Q (some (.int res.1)) res.2) : am_W (X_Club_act (d + 67)) 0 [some (.ref 0), some (.int x1), some (.int x2), some (.int x3)] [] h Q :=
  (am_bd e).elim fun p hp => b_Club_act_0 (d := (d + 66)) (k := c_Words_perform (d := d) hp.1 (t_Club_act_10 hp.2 q))
theorem c_Club_act {d : Nat} {x1 : Int32} {x2 : Int32} {x3 : Int32} {h : am_H} {Q : am_Q} {res : Int32 × am_H} (e : f_Club_act h x1 x2 x3 = some res) (q : Q (some (.int res.1)) res.2) : m_Club_act (d + 67) [.ref 0, .int x1, .int x2, .int x3] h Q :=
  e_Club_act (t_Club_act_0 e q)
theorem d_Words_ranAt_0 : decode prog_10_method_11_code 0 = .ok (.iload_n 1, 1) := by decide +kernel
theorem d_Words_ranAt_1 : decode prog_10_method_11_code 1 = .ok (.ifCond .lt 18, 3) := by decide +kernel
theorem d_Words_ranAt_4 : decode prog_10_method_11_code 4 = .ok (.iload_n 1, 1) := by decide +kernel
theorem d_Words_ranAt_5 : decode prog_10_method_11_code 5 = .ok (.bipush 24, 2) := by decide +kernel
theorem d_Words_ranAt_7 : decode prog_10_method_11_code 7 = .ok (.if_icmp .ge 12, 3) := by decide +kernel
theorem d_Words_ranAt_10 : decode prog_10_method_11_code 10 = .ok (.aload_n 0, 1) := by decide +kernel
theorem d_Words_ranAt_11 : decode prog_10_method_11_code 11 = .ok (.getfield 15, 3) := by decide +kernel
theorem d_Words_ranAt_14 : decode prog_10_method_11_code 14 = .ok (.iload_n 1, 1) := by decide +kernel
theorem d_Words_ranAt_15 : decode prog_10_method_11_code 15 = .ok (.iaload, 1) := by decide +kernel
theorem d_Words_ranAt_16 : decode prog_10_method_11_code 16 = .ok (.goto 4, 3) := by decide +kernel
theorem d_Words_ranAt_19 : decode prog_10_method_11_code 19 = .ok (.iconst (-1), 1) := by decide +kernel
theorem d_Words_ranAt_20 : decode prog_10_method_11_code 20 = .ok (.ireturn, 1) := by decide +kernel
theorem b_Words_ranAt_0 {d : Nat} {x1 : Int32} {h : am_H} {Q : am_Q} (kt : x1 < 0 → am_W (X_Words_ranAt d) 19 [some (.ref 27), some (.int x1)] [] h Q) (kf : ¬ x1 < 0 → am_W (X_Words_ranAt d) 4 [some (.ref 27), some (.int x1)] [] h Q) : am_W (X_Words_ranAt d) 0 [some (.ref 27), some (.int x1)] [] h Q :=
  am_iload_n d_Words_ranAt_0 rfl (i := 1) rfl <|
    am_if_lt (tgt := 19) d_Words_ranAt_1 (by decide) kt kf
theorem b_Words_ranAt_4 {d : Nat} {x1 : Int32} {h : am_H} {Q : am_Q} (kt : 24 ≤ x1 → am_W (X_Words_ranAt d) 19 [some (.ref 27), some (.int x1)] [] h Q) (kf : ¬ 24 ≤ x1 → am_W (X_Words_ranAt d) 10 [some (.ref 27), some (.int x1)] [] h Q) : am_W (X_Words_ranAt d) 4 [some (.ref 27), some (.int x1)] [] h Q :=
  am_iload_n d_Words_ranAt_4 rfl (i := 1) rfl <|
    am_bipush (v := 24) d_Words_ranAt_5 (by decide) <|
    am_icmp_ge (tgt := 19) d_Words_ranAt_7 (by decide) kt kf
theorem b_Words_ranAt_10 {d : Nat} {x1 : Int32} {h : am_H} {Q : am_Q} (q0 : vp_in x1 24) (q : Q (some (.int (h.1 29 x1.toNatClampNeg))) h) : am_W (X_Words_ranAt d) 10 [some (.ref 27), some (.int x1)] [] h Q :=
  am_aload_n d_Words_ranAt_10 rfl (i := 0) rfl <|
    am_getR (ci := 8) (i := 1) rfl rfl rfl (Nat.le_of_ble_eq_true rfl) w_330 d_Words_ranAt_11 <|
    am_iload_n d_Words_ranAt_14 rfl (i := 1) rfl <|
    am_iald rfl q0 d_Words_ranAt_15 <|
    am_goto (tgt := 20) d_Words_ranAt_16 (by decide) <|
    am_iret rfl d_Words_ranAt_20 q
theorem b_Words_ranAt_19 {d : Nat} {x1 : Int32} {h : am_H} {Q : am_Q} (q : Q (some (.int (-1))) h) : am_W (X_Words_ranAt d) 19 [some (.ref 27), some (.int x1)] [] h Q :=
  am_iconst (v := (-1)) d_Words_ranAt_19 (by decide) <|
    am_iret rfl d_Words_ranAt_20 q
theorem t_Words_ranAt_19 {d : Nat} {x1 : Int32} {h : am_H} {Q : am_Q} {res : Int32} (e : f_Words_ranAt_19 h = some res) (q : Q (some (.int res)) h) : am_W (X_Words_ranAt d) 19 [some (.ref 27), some (.int x1)] [] h Q :=
  b_Words_ranAt_19 (d := d) (q := (am_rIp (v := (-1)) e q))
theorem t_Words_ranAt_10 {d : Nat} {x1 : Int32} {h : am_H} {Q : am_Q} {res : Int32} (e : f_Words_ranAt_10 h x1 = some res) (q : Q (some (.int res)) h) : am_W (X_Words_ranAt d) 10 [some (.ref 27), some (.int x1)] [] h Q :=
  b_Words_ranAt_10 (d := d) (q0 := (am_okv (am_gd e))) (q := (am_rIp (v := (h.1 29 x1.toNatClampNeg)) (am_ga e) q))
theorem t_Words_ranAt_4 {d : Nat} {x1 : Int32} {h : am_H} {Q : am_Q} {res : Int32} (e : f_Words_ranAt_4 h x1 = some res) (q : Q (some (.int res)) h) : am_W (X_Words_ranAt d) 4 [some (.ref 27), some (.int x1)] [] h Q :=
  b_Words_ranAt_4 (d := d) (kt := fun c => (t_Words_ranAt_19 (am_ift e c) q)) (kf := fun c => (t_Words_ranAt_10 (am_ife e c) q))
theorem t_Words_ranAt_0 {d : Nat} {x1 : Int32} {h : am_H} {Q : am_Q} {res : Int32} (e : f_Words_ranAt h x1 = some res) (q : Q (some (.int res)) h) : am_W (X_Words_ranAt d) 0 [some (.ref 27), some (.int x1)] [] h Q :=
  b_Words_ranAt_0 (d := d) (kt := fun c => (t_Words_ranAt_19 (am_ift e c) q)) (kf := fun c => (t_Words_ranAt_4 (am_ife e c) q))
theorem c_Words_ranAt {d : Nat} {x1 : Int32} {h : am_H} {Q : am_Q} {res : Int32} (e : f_Words_ranAt h x1 = some res) (q : Q (some (.int res)) h) : m_Words_ranAt d [.ref 27, .int x1] h Q :=
  e_Words_ranAt (t_Words_ranAt_0 e q)
theorem d_Words_ranKept_0 : decode prog_10_method_10_code 0 = .ok (.aload_n 0, 1) := by decide +kernel
theorem d_Words_ranKept_1 : decode prog_10_method_10_code 1 = .ok (.getfield 22, 3) := by decide +kernel
theorem d_Words_ranKept_4 : decode prog_10_method_10_code 4 = .ok (.bipush 24, 2) := by decide +kernel
theorem d_Words_ranKept_6 : decode prog_10_method_10_code 6 = .ok (.invokestatic 35, 3) := by decide +kernel
theorem d_Words_ranKept_9 : decode prog_10_method_10_code 9 = .ok (.ireturn, 1) := by decide +kernel
theorem b_Words_ranKept_0 {d : Nat} {h : am_H} {Q : am_Q} (q : Q (some (.int (if 24 < (h.1 27 3) then 24 else (h.1 27 3)))) h) : am_W (X_Words_ranKept d) 0 [some (.ref 27)] [] h Q :=
  am_aload_n d_Words_ranKept_0 rfl (i := 0) rfl <|
    am_getI (ci := 8) (i := 3) rfl rfl rfl (Nat.le_of_ble_eq_true rfl) w_332 d_Words_ranKept_1 <|
    am_bipush (v := 24) d_Words_ranKept_4 (by decide) <|
    am_mmin w_1202 d_Words_ranKept_6 (Nat.le_of_ble_eq_true rfl) <|
    am_iret rfl d_Words_ranKept_9 q
theorem t_Words_ranKept_0 {d : Nat} {h : am_H} {Q : am_Q} {res : Int32} (e : f_Words_ranKept h = res) (q : Q (some (.int res)) h) : am_W (X_Words_ranKept d) 0 [some (.ref 27)] [] h Q :=
  b_Words_ranKept_0 (d := d) (q := (am_rIt (v := (if 24 < (h.1 27 3) then 24 else (h.1 27 3))) e q))
theorem c_Words_ranKept {d : Nat} {h : am_H} {Q : am_Q} {res : Int32} (e : f_Words_ranKept h = res) (q : Q (some (.int res)) h) : m_Words_ranKept d [.ref 27] h Q :=
  e_Words_ranKept (t_Words_ranKept_0 e q)
theorem d_Club_trace_0 : decode prog_1_method_34_code 0 = .ok (.iload_n 1, 1) := by decide +kernel
theorem d_Club_trace_1 : decode prog_1_method_34_code 1 = .ok (.ifCond .lt 14, 3) := by decide +kernel
theorem d_Club_trace_4 : decode prog_1_method_34_code 4 = .ok (.iload_n 1, 1) := by decide +kernel
theorem d_Club_trace_5 : decode prog_1_method_34_code 5 = .ok (.aload_n 0, 1) := by decide +kernel
theorem d_Club_trace_6 : decode prog_1_method_34_code 6 = .ok (.getfield 69, 3) := by decide +kernel
theorem d_Club_trace_9 : decode prog_1_method_34_code 9 = .ok (.invokevirtual 324, 3) := by decide +kernel
theorem d_Club_trace_12 : decode prog_1_method_34_code 12 = .ok (.if_icmp .lt 7, 3) := by decide +kernel
theorem d_Club_trace_15 : decode prog_1_method_34_code 15 = .ok (.iconst (-1), 1) := by decide +kernel
theorem d_Club_trace_16 : decode prog_1_method_34_code 16 = .ok (.goto 11, 3) := by decide +kernel
theorem d_Club_trace_19 : decode prog_1_method_34_code 19 = .ok (.aload_n 0, 1) := by decide +kernel
theorem d_Club_trace_20 : decode prog_1_method_34_code 20 = .ok (.getfield 69, 3) := by decide +kernel
theorem d_Club_trace_23 : decode prog_1_method_34_code 23 = .ok (.iload_n 1, 1) := by decide +kernel
theorem d_Club_trace_24 : decode prog_1_method_34_code 24 = .ok (.invokevirtual 327, 3) := by decide +kernel
theorem d_Club_trace_27 : decode prog_1_method_34_code 27 = .ok (.ireturn, 1) := by decide +kernel
theorem b_Club_trace_0 {d : Nat} {x1 : Int32} {h : am_H} {Q : am_Q} (kt : x1 < 0 → am_W (X_Club_trace d) 15 [some (.ref 0), some (.int x1)] [] h Q) (kf : ¬ x1 < 0 → am_W (X_Club_trace d) 4 [some (.ref 0), some (.int x1)] [] h Q) : am_W (X_Club_trace d) 0 [some (.ref 0), some (.int x1)] [] h Q :=
  am_iload_n d_Club_trace_0 rfl (i := 1) rfl <|
    am_if_lt (tgt := 15) d_Club_trace_1 (by decide) kt kf
theorem b_Club_trace_4 {d : Nat} {x1 : Int32} {h : am_H} {Q : am_Q} (k : m_Words_ranKept d [.ref 27] h (fun r hh => am_W (X_Club_trace (d + 1)) 12 [some (.ref 0), some (.int x1)] (r.toList ++ [.int x1]) hh Q)) : am_W (X_Club_trace (d + 1)) 4 [some (.ref 0), some (.int x1)] [] h Q :=
  am_iload_n d_Club_trace_4 rfl (i := 1) rfl <|
    am_aload_n d_Club_trace_5 rfl (i := 0) rfl <|
    am_getR (ci := 0) (i := 7) rfl rfl rfl (Nat.le_of_ble_eq_true rfl) w_369 d_Club_trace_6 <|
    am_callV (vs := []) (st := [.int x1]) (k := 27) (ci := 8) rfl d_Club_trace_9 rfl rfl w_1198 w_1199 w_1200 w_92 w_1201 p_Words_ranKept (Nat.le_of_ble_eq_true rfl) (Nat.le_of_ble_eq_true rfl) rfl k
theorem b_Club_trace_12 {d : Nat} {x1 : Int32} {y1 : Int32} {y0 : Int32} {h : am_H} {Q : am_Q} (kt : y0 < y1 → am_W (X_Club_trace d) 19 [some (.ref 0), some (.int x1)] [] h Q) (kf : ¬ y0 < y1 → am_W (X_Club_trace d) 15 [some (.ref 0), some (.int x1)] [] h Q) : am_W (X_Club_trace d) 12 [some (.ref 0), some (.int x1)] [.int y1, .int y0] h Q :=
  am_icmp_lt (tgt := 19) d_Club_trace_12 (by decide) kt kf
theorem b_Club_trace_15 {d : Nat} {x1 : Int32} {h : am_H} {Q : am_Q} (q : Q (some (.int (-1))) h) : am_W (X_Club_trace d) 15 [some (.ref 0), some (.int x1)] [] h Q :=
  am_iconst (v := (-1)) d_Club_trace_15 (by decide) <|
    am_goto (tgt := 27) d_Club_trace_16 (by decide) <|
    am_iret rfl d_Club_trace_27 q
theorem b_Club_trace_19 {d : Nat} {x1 : Int32} {h : am_H} {Q : am_Q} (k : m_Words_ranAt d [.ref 27, .int x1] h (fun r hh => am_W (X_Club_trace (d + 1)) 27 [some (.ref 0), some (.int x1)] (r.toList ++ []) hh Q)) : am_W (X_Club_trace (d + 1)) 19 [some (.ref 0), some (.int x1)] [] h Q :=
  am_aload_n d_Club_trace_19 rfl (i := 0) rfl <|
    am_getR (ci := 0) (i := 7) rfl rfl rfl (Nat.le_of_ble_eq_true rfl) w_369 d_Club_trace_20 <|
    am_iload_n d_Club_trace_23 rfl (i := 1) rfl <|
    am_callV (vs := [.int x1]) (st := []) (k := 27) (ci := 8) rfl d_Club_trace_24 rfl rfl w_1203 w_1204 w_1205 w_92 w_1206 p_Words_ranAt (Nat.le_of_ble_eq_true rfl) (Nat.le_of_ble_eq_true rfl) rfl k
theorem b_Club_trace_27 {d : Nat} {x1 : Int32} {y0 : Int32} {h : am_H} {Q : am_Q} (q : Q (some (.int y0)) h) : am_W (X_Club_trace d) 27 [some (.ref 0), some (.int x1)] [.int y0] h Q :=
  am_iret rfl d_Club_trace_27 q
theorem t_Club_trace_15 {d : Nat} {x1 : Int32} {h : am_H} {Q : am_Q} {res : Int32} (e : f_Club_trace_15 h = some res) (q : Q (some (.int res)) h) : am_W (X_Club_trace (d + 1)) 15 [some (.ref 0), some (.int x1)] [] h Q :=
  b_Club_trace_15 (d := (d + 1)) (q := (am_rIp (v := (-1)) e q))
theorem t_Club_trace_27 {d : Nat} {x1 : Int32} {y0 : Int32} {h : am_H} {Q : am_Q} {res : Int32} (e : f_Club_trace_27 h y0 = some res) (q : Q (some (.int res)) h) : am_W (X_Club_trace (d + 1)) 27 [some (.ref 0), some (.int x1)] [.int y0] h Q :=
  b_Club_trace_27 (d := (d + 1)) (q := (am_rIp (v := y0) e q))
theorem t_Club_trace_19 {d : Nat} {x1 : Int32} {h : am_H} {Q : am_Q} {res : Int32} (e : f_Club_trace_19 h x1 = some res) (q : Q (some (.int res)) h) : am_W (X_Club_trace (d + 1)) 19 [some (.ref 0), some (.int x1)] [] h Q :=
  (am_bd e).elim fun p hp => b_Club_trace_19 (d := d) (k := c_Words_ranAt (d := d) hp.1 (t_Club_trace_27 hp.2 q))
theorem t_Club_trace_12 {d : Nat} {x1 : Int32} {y1 : Int32} {y0 : Int32} {h : am_H} {Q : am_Q} {res : Int32} (e : f_Club_trace_12 h x1 y1 y0 = some res) (q : Q (some (.int res)) h) : am_W (X_Club_trace (d + 1)) 12 [some (.ref 0), some (.int x1)] [.int y1, .int y0] h Q :=
  b_Club_trace_12 (d := (d + 1)) (kt := fun c => (t_Club_trace_19 (am_ift e c) q)) (kf := fun c => (t_Club_trace_15 (am_ife e c) q))
theorem t_Club_trace_4 {d : Nat} {x1 : Int32} {h : am_H} {Q : am_Q} {res : Int32} (e : f_Club_trace_4 h x1 = some res) (q : Q (some (.int res)) h) : am_W (X_Club_trace (d + 1)) 4 [some (.ref 0), some (.int x1)] [] h Q :=
  b_Club_trace_4 (d := d) (k := c_Words_ranKept (d := d) rfl (t_Club_trace_12 e q))
theorem t_Club_trace_0 {d : Nat} {x1 : Int32} {h : am_H} {Q : am_Q} {res : Int32} (e : f_Club_trace h x1 = some res) (q : Q (some (.int res)) h) : am_W (X_Club_trace (d + 1)) 0 [some (.ref 0), some (.int x1)] [] h Q :=
  b_Club_trace_0 (d := (d + 1)) (kt := fun c => (t_Club_trace_15 (am_ift e c) q)) (kf := fun c => (t_Club_trace_4 (am_ife e c) q))
theorem c_Club_trace {d : Nat} {x1 : Int32} {h : am_H} {Q : am_Q} {res : Int32} (e : f_Club_trace h x1 = some res) (q : Q (some (.int res)) h) : m_Club_trace (d + 1) [.ref 0, .int x1] h Q :=
  e_Club_trace (t_Club_trace_0 e q)
theorem d_Shelf_holdNothing_0 : decode prog_9_method_3_code 0 = .ok (.aload_n 0, 1) := by decide +kernel
theorem d_Shelf_holdNothing_1 : decode prog_9_method_3_code 1 = .ok (.iconst (-1), 1) := by decide +kernel
theorem d_Shelf_holdNothing_2 : decode prog_9_method_3_code 2 = .ok (.putfield 13, 3) := by decide +kernel
theorem d_Shelf_holdNothing_5 : decode prog_9_method_3_code 5 = .ok (.aload_n 0, 1) := by decide +kernel
theorem d_Shelf_holdNothing_6 : decode prog_9_method_3_code 6 = .ok (.iconst (-1), 1) := by decide +kernel
theorem d_Shelf_holdNothing_7 : decode prog_9_method_3_code 7 = .ok (.putfield 17, 3) := by decide +kernel
theorem d_Shelf_holdNothing_10 : decode prog_9_method_3_code 10 = .ok (.aload_n 0, 1) := by decide +kernel
theorem d_Shelf_holdNothing_11 : decode prog_9_method_3_code 11 = .ok (.iconst 0, 1) := by decide +kernel
theorem d_Shelf_holdNothing_12 : decode prog_9_method_3_code 12 = .ok (.putfield 20, 3) := by decide +kernel
theorem d_Shelf_holdNothing_15 : decode prog_9_method_3_code 15 = .ok (.return_, 1) := by decide +kernel
theorem b_Shelf_holdNothing_0 {d : Nat} {a0 : Nat} {h : am_H} {Q : am_Q} (sa0 : am_shf a0) (q : Q none (am_pI (am_pI (am_pI h a0 1 (-1)) a0 2 (-1)) a0 3 0)) : am_W (X_Shelf_holdNothing d) 0 [some (.ref a0)] [] h Q :=
  am_aload_n d_Shelf_holdNothing_0 rfl (i := 0) rfl <|
    am_iconst (v := (-1)) d_Shelf_holdNothing_1 (by decide) <|
    am_putI (ci := 9) (i := 1) rfl sa0.1 rfl (Nat.le_of_ble_eq_true rfl) w_350 rfl rfl rfl d_Shelf_holdNothing_2 <|
    am_aload_n d_Shelf_holdNothing_5 rfl (i := 0) rfl <|
    am_iconst (v := (-1)) d_Shelf_holdNothing_6 (by decide) <|
    am_putI (ci := 9) (i := 2) rfl sa0.1 rfl (Nat.le_of_ble_eq_true rfl) w_351 rfl rfl rfl d_Shelf_holdNothing_7 <|
    am_aload_n d_Shelf_holdNothing_10 rfl (i := 0) rfl <|
    am_iconst (v := 0) d_Shelf_holdNothing_11 (by decide) <|
    am_putI (ci := 9) (i := 3) rfl sa0.1 rfl (Nat.le_of_ble_eq_true rfl) w_352 rfl rfl rfl d_Shelf_holdNothing_12 <|
    am_vret rfl d_Shelf_holdNothing_15 q
theorem t_Shelf_holdNothing_0 {d : Nat} {a0 : Nat} {h : am_H} {Q : am_Q} {res : am_H} (sa0 : am_shf a0) (e : f_Shelf_holdNothing h a0 = res) (q : Q none res) : am_W (X_Shelf_holdNothing d) 0 [some (.ref a0)] [] h Q :=
  b_Shelf_holdNothing_0 (d := d) (sa0 := sa0) (q := (am_rVti e q))
theorem c_Shelf_holdNothing {d : Nat} {a0 : Nat} {h : am_H} {Q : am_Q} {res : am_H} (sa0 : am_shf a0) (e : f_Shelf_holdNothing h a0 = res) (q : Q none res) : m_Shelf_holdNothing d [.ref a0] h Q :=
  e_Shelf_holdNothing (t_Shelf_holdNothing_0 sa0 e q)
theorem d_Shelf_holdWord_0 : decode prog_9_method_4_code 0 = .ok (.aload_n 0, 1) := by decide +kernel
theorem d_Shelf_holdWord_1 : decode prog_9_method_4_code 1 = .ok (.invokevirtual 23, 3) := by decide +kernel
theorem d_Shelf_holdWord_4 : decode prog_9_method_4_code 4 = .ok (.aload_n 0, 1) := by decide +kernel
theorem d_Shelf_holdWord_5 : decode prog_9_method_4_code 5 = .ok (.iload_n 1, 1) := by decide +kernel
theorem d_Shelf_holdWord_6 : decode prog_9_method_4_code 6 = .ok (.putfield 13, 3) := by decide +kernel
theorem d_Shelf_holdWord_9 : decode prog_9_method_4_code 9 = .ok (.return_, 1) := by decide +kernel
theorem b_Shelf_holdWord_0 {d : Nat} {a0 : Nat} {x1 : Int32} {h : am_H} {Q : am_Q} (sa0 : am_shf a0) (k : m_Shelf_holdNothing d [.ref a0] h (fun r hh => am_W (X_Shelf_holdWord (d + 1)) 4 [some (.ref a0), some (.int x1)] (r.toList ++ []) hh Q)) : am_W (X_Shelf_holdWord (d + 1)) 0 [some (.ref a0), some (.int x1)] [] h Q :=
  am_aload_n d_Shelf_holdWord_0 rfl (i := 0) rfl <|
    am_callV (vs := []) (st := []) (k := a0) (ci := 9) rfl d_Shelf_holdWord_1 rfl sa0.1 w_1220 w_1213 w_1214 w_93 w_1215 p_Shelf_holdNothing (Nat.le_of_ble_eq_true rfl) (Nat.le_of_ble_eq_true rfl) rfl k
theorem b_Shelf_holdWord_4 {d : Nat} {a0 : Nat} {x1 : Int32} {h : am_H} {Q : am_Q} (sa0 : am_shf a0) (q : Q none (am_pI h a0 1 x1)) : am_W (X_Shelf_holdWord d) 4 [some (.ref a0), some (.int x1)] [] h Q :=
  am_aload_n d_Shelf_holdWord_4 rfl (i := 0) rfl <|
    am_iload_n d_Shelf_holdWord_5 rfl (i := 1) rfl <|
    am_putI (ci := 9) (i := 1) rfl sa0.1 rfl (Nat.le_of_ble_eq_true rfl) w_350 rfl rfl rfl d_Shelf_holdWord_6 <|
    am_vret rfl d_Shelf_holdWord_9 q
theorem t_Shelf_holdWord_4 {d : Nat} {a0 : Nat} {x1 : Int32} {h : am_H} {Q : am_Q} {res : am_H} (sa0 : am_shf a0) (e : f_Shelf_holdWord_4 h a0 x1 = res) (q : Q none res) : am_W (X_Shelf_holdWord (d + 1)) 4 [some (.ref a0), some (.int x1)] [] h Q :=
  b_Shelf_holdWord_4 (d := (d + 1)) (sa0 := sa0) (q := (am_rVti e q))
theorem t_Shelf_holdWord_0 {d : Nat} {a0 : Nat} {x1 : Int32} {h : am_H} {Q : am_Q} {res : am_H} (sa0 : am_shf a0) (e : f_Shelf_holdWord h a0 x1 = res) (q : Q none res) : am_W (X_Shelf_holdWord (d + 1)) 0 [some (.ref a0), some (.int x1)] [] h Q :=
  b_Shelf_holdWord_0 (d := d) (sa0 := sa0) (k := c_Shelf_holdNothing (d := d) sa0 rfl (t_Shelf_holdWord_4 sa0 e q))
theorem c_Shelf_holdWord {d : Nat} {a0 : Nat} {x1 : Int32} {h : am_H} {Q : am_Q} {res : am_H} (sa0 : am_shf a0) (e : f_Shelf_holdWord h a0 x1 = res) (q : Q none res) : m_Shelf_holdWord (d + 1) [.ref a0, .int x1] h Q :=
  e_Shelf_holdWord (t_Shelf_holdWord_0 sa0 e q)
theorem d_Club_keep_0 : decode prog_1_method_35_code 0 = .ok (.iload_n 1, 1) := by decide +kernel
theorem d_Club_keep_1 : decode prog_1_method_35_code 1 = .ok (.invokestatic 95, 3) := by decide +kernel
theorem d_Club_keep_4 : decode prog_1_method_35_code 4 = .ok (.ifCond .eq 19, 3) := by decide +kernel
theorem d_Club_keep_7 : decode prog_1_method_35_code 7 = .ok (.iload_n 2, 1) := by decide +kernel
theorem d_Club_keep_8 : decode prog_1_method_35_code 8 = .ok (.iconst (-1), 1) := by decide +kernel
theorem d_Club_keep_9 : decode prog_1_method_35_code 9 = .ok (.if_icmp .eq 16, 3) := by decide +kernel
theorem d_Club_keep_12 : decode prog_1_method_35_code 12 = .ok (.aload_n 0, 1) := by decide +kernel
theorem d_Club_keep_13 : decode prog_1_method_35_code 13 = .ok (.getfield 69, 3) := by decide +kernel
theorem d_Club_keep_16 : decode prog_1_method_35_code 16 = .ok (.iload_n 2, 1) := by decide +kernel
theorem d_Club_keep_17 : decode prog_1_method_35_code 17 = .ok (.invokevirtual 330, 3) := by decide +kernel
theorem d_Club_keep_20 : decode prog_1_method_35_code 20 = .ok (.ifCond .ne 5, 3) := by decide +kernel
theorem d_Club_keep_23 : decode prog_1_method_35_code 23 = .ok (.iconst (-1), 1) := by decide +kernel
theorem d_Club_keep_24 : decode prog_1_method_35_code 24 = .ok (.ireturn, 1) := by decide +kernel
theorem d_Club_keep_25 : decode prog_1_method_35_code 25 = .ok (.iload_n 2, 1) := by decide +kernel
theorem d_Club_keep_26 : decode prog_1_method_35_code 26 = .ok (.iconst (-1), 1) := by decide +kernel
theorem d_Club_keep_27 : decode prog_1_method_35_code 27 = .ok (.if_icmp .ne 15, 3) := by decide +kernel
theorem d_Club_keep_30 : decode prog_1_method_35_code 30 = .ok (.aload_n 0, 1) := by decide +kernel
theorem d_Club_keep_31 : decode prog_1_method_35_code 31 = .ok (.getfield 75, 3) := by decide +kernel
theorem d_Club_keep_34 : decode prog_1_method_35_code 34 = .ok (.iload_n 1, 1) := by decide +kernel
theorem d_Club_keep_35 : decode prog_1_method_35_code 35 = .ok (.aaload, 1) := by decide +kernel
theorem d_Club_keep_36 : decode prog_1_method_35_code 36 = .ok (.invokevirtual 333, 3) := by decide +kernel
theorem d_Club_keep_39 : decode prog_1_method_35_code 39 = .ok (.goto 13, 3) := by decide +kernel
theorem d_Club_keep_42 : decode prog_1_method_35_code 42 = .ok (.aload_n 0, 1) := by decide +kernel
theorem d_Club_keep_43 : decode prog_1_method_35_code 43 = .ok (.getfield 75, 3) := by decide +kernel
theorem d_Club_keep_46 : decode prog_1_method_35_code 46 = .ok (.iload_n 1, 1) := by decide +kernel
theorem d_Club_keep_47 : decode prog_1_method_35_code 47 = .ok (.aaload, 1) := by decide +kernel
theorem d_Club_keep_48 : decode prog_1_method_35_code 48 = .ok (.iload_n 2, 1) := by decide +kernel
theorem d_Club_keep_49 : decode prog_1_method_35_code 49 = .ok (.invokevirtual 336, 3) := by decide +kernel
theorem d_Club_keep_52 : decode prog_1_method_35_code 52 = .ok (.iconst 1, 1) := by decide +kernel
theorem d_Club_keep_53 : decode prog_1_method_35_code 53 = .ok (.ireturn, 1) := by decide +kernel
theorem b_Club_keep_0 {d : Nat} {x1 : Int32} {x2 : Int32} {h : am_H} {Q : am_Q} (k : m_Club_isShelf d [.int x1] h (fun r hh => am_W (X_Club_keep (d + 1)) 4 [some (.ref 0), some (.int x1), some (.int x2)] (r.toList ++ []) hh Q)) : am_W (X_Club_keep (d + 1)) 0 [some (.ref 0), some (.int x1), some (.int x2)] [] h Q :=
  am_iload_n d_Club_keep_0 rfl (i := 1) rfl <|
    am_callS (vs := [.int x1]) (st := []) rfl d_Club_keep_1 w_431 w_432 w_83 w_433 p_Club_isShelf (Nat.le_of_ble_eq_true rfl) (Nat.le_of_ble_eq_true rfl) rfl k
theorem b_Club_keep_4 {d : Nat} {x1 : Int32} {x2 : Int32} {y0 : Bool} {h : am_H} {Q : am_Q} (kt : (am_b y0) = 0 → am_W (X_Club_keep d) 23 [some (.ref 0), some (.int x1), some (.int x2)] [] h Q) (kf : ¬ (am_b y0) = 0 → am_W (X_Club_keep d) 7 [some (.ref 0), some (.int x1), some (.int x2)] [] h Q) : am_W (X_Club_keep d) 4 [some (.ref 0), some (.int x1), some (.int x2)] [.int (am_b y0)] h Q :=
  am_if_eq (tgt := 23) d_Club_keep_4 (by decide) kt kf
theorem b_Club_keep_7 {d : Nat} {x1 : Int32} {x2 : Int32} {h : am_H} {Q : am_Q} (kt : x2 = (-1) → am_W (X_Club_keep d) 25 [some (.ref 0), some (.int x1), some (.int x2)] [] h Q) (kf : ¬ x2 = (-1) → am_W (X_Club_keep d) 12 [some (.ref 0), some (.int x1), some (.int x2)] [] h Q) : am_W (X_Club_keep d) 7 [some (.ref 0), some (.int x1), some (.int x2)] [] h Q :=
  am_iload_n d_Club_keep_7 rfl (i := 2) rfl <|
    am_iconst (v := (-1)) d_Club_keep_8 (by decide) <|
    am_icmp_eq (tgt := 25) d_Club_keep_9 (by decide) kt kf
theorem b_Club_keep_12 {d : Nat} {x1 : Int32} {x2 : Int32} {h : am_H} {Q : am_Q} (k : m_Words_hasWord d [.ref 27, .int x2] h (fun r hh => am_W (X_Club_keep (d + 1)) 20 [some (.ref 0), some (.int x1), some (.int x2)] (r.toList ++ []) hh Q)) : am_W (X_Club_keep (d + 1)) 12 [some (.ref 0), some (.int x1), some (.int x2)] [] h Q :=
  am_aload_n d_Club_keep_12 rfl (i := 0) rfl <|
    am_getR (ci := 0) (i := 7) rfl rfl rfl (Nat.le_of_ble_eq_true rfl) w_369 d_Club_keep_13 <|
    am_iload_n d_Club_keep_16 rfl (i := 2) rfl <|
    am_callV (vs := [.int x2]) (st := []) (k := 27) (ci := 8) rfl d_Club_keep_17 rfl rfl w_1211 w_1169 w_1170 w_92 w_1171 p_Words_hasWord (Nat.le_of_ble_eq_true rfl) (Nat.le_of_ble_eq_true rfl) rfl k
theorem b_Club_keep_20 {d : Nat} {x1 : Int32} {x2 : Int32} {y0 : Bool} {h : am_H} {Q : am_Q} (kt : ¬ (am_b y0) = 0 → am_W (X_Club_keep d) 25 [some (.ref 0), some (.int x1), some (.int x2)] [] h Q) (kf : (am_b y0) = 0 → am_W (X_Club_keep d) 23 [some (.ref 0), some (.int x1), some (.int x2)] [] h Q) : am_W (X_Club_keep d) 20 [some (.ref 0), some (.int x1), some (.int x2)] [.int (am_b y0)] h Q :=
  am_if_ne (tgt := 25) d_Club_keep_20 (by decide) kt kf
theorem b_Club_keep_23 {d : Nat} {x1 : Int32} {x2 : Int32} {h : am_H} {Q : am_Q} (q : Q (some (.int (-1))) h) : am_W (X_Club_keep d) 23 [some (.ref 0), some (.int x1), some (.int x2)] [] h Q :=
  am_iconst (v := (-1)) d_Club_keep_23 (by decide) <|
    am_iret rfl d_Club_keep_24 q
theorem b_Club_keep_25 {d : Nat} {x1 : Int32} {x2 : Int32} {h : am_H} {Q : am_Q} (kt : ¬ x2 = (-1) → am_W (X_Club_keep d) 42 [some (.ref 0), some (.int x1), some (.int x2)] [] h Q) (kf : x2 = (-1) → am_W (X_Club_keep d) 30 [some (.ref 0), some (.int x1), some (.int x2)] [] h Q) : am_W (X_Club_keep d) 25 [some (.ref 0), some (.int x1), some (.int x2)] [] h Q :=
  am_iload_n d_Club_keep_25 rfl (i := 2) rfl <|
    am_iconst (v := (-1)) d_Club_keep_26 (by decide) <|
    am_icmp_ne (tgt := 42) d_Club_keep_27 (by decide) kt kf
theorem b_Club_keep_30 {d : Nat} {x1 : Int32} {x2 : Int32} {h : am_H} {Q : am_Q} (q0 : vp_in x1 6) (k : m_Shelf_holdNothing d [.ref (am_shp x1)] h (fun r hh => am_W (X_Club_keep (d + 1)) 39 [some (.ref 0), some (.int x1), some (.int x2)] (r.toList ++ []) hh Q)) : am_W (X_Club_keep (d + 1)) 30 [some (.ref 0), some (.int x1), some (.int x2)] [] h Q :=
  am_aload_n d_Club_keep_30 rfl (i := 0) rfl <|
    am_getR (ci := 0) (i := 8) rfl rfl rfl (Nat.le_of_ble_eq_true rfl) w_370 d_Club_keep_31 <|
    am_iload_n d_Club_keep_34 rfl (i := 1) rfl <|
    am_aald (q := am_shp x1) rfl q0 (am_shq q0) d_Club_keep_35 <|
    am_callV (vs := []) (st := []) (k := (am_shp x1)) (ci := 9) rfl d_Club_keep_36 rfl (am_shl q0).1 w_1212 w_1213 w_1214 w_93 w_1215 p_Shelf_holdNothing (Nat.le_of_ble_eq_true rfl) (Nat.le_of_ble_eq_true rfl) rfl k
theorem b_Club_keep_39 {d : Nat} {x1 : Int32} {x2 : Int32} {h : am_H} {Q : am_Q} (k : am_W (X_Club_keep d) 52 [some (.ref 0), some (.int x1), some (.int x2)] [] h Q) : am_W (X_Club_keep d) 39 [some (.ref 0), some (.int x1), some (.int x2)] [] h Q :=
  am_goto (tgt := 52) d_Club_keep_39 (by decide) k
theorem b_Club_keep_42 {d : Nat} {x1 : Int32} {x2 : Int32} {h : am_H} {Q : am_Q} (q0 : vp_in x1 6) (k : m_Shelf_holdWord d [.ref (am_shp x1), .int x2] h (fun r hh => am_W (X_Club_keep (d + 1)) 52 [some (.ref 0), some (.int x1), some (.int x2)] (r.toList ++ []) hh Q)) : am_W (X_Club_keep (d + 1)) 42 [some (.ref 0), some (.int x1), some (.int x2)] [] h Q :=
  am_aload_n d_Club_keep_42 rfl (i := 0) rfl <|
    am_getR (ci := 0) (i := 8) rfl rfl rfl (Nat.le_of_ble_eq_true rfl) w_370 d_Club_keep_43 <|
    am_iload_n d_Club_keep_46 rfl (i := 1) rfl <|
    am_aald (q := am_shp x1) rfl q0 (am_shq q0) d_Club_keep_47 <|
    am_iload_n d_Club_keep_48 rfl (i := 2) rfl <|
    am_callV (vs := [.int x2]) (st := []) (k := (am_shp x1)) (ci := 9) rfl d_Club_keep_49 rfl (am_shl q0).1 w_1216 w_1217 w_1218 w_93 w_1219 p_Shelf_holdWord (Nat.le_of_ble_eq_true rfl) (Nat.le_of_ble_eq_true rfl) rfl k
theorem b_Club_keep_52 {d : Nat} {x1 : Int32} {x2 : Int32} {h : am_H} {Q : am_Q} (q : Q (some (.int 1)) h) : am_W (X_Club_keep d) 52 [some (.ref 0), some (.int x1), some (.int x2)] [] h Q :=
  am_iconst (v := 1) d_Club_keep_52 (by decide) <|
    am_iret rfl d_Club_keep_53 q
theorem t_Club_keep_23 {d : Nat} {x1 : Int32} {x2 : Int32} {h : am_H} {Q : am_Q} {res : Int32 × am_H} (e : f_Club_keep_23 h = some res) (q : Q (some (.int res.1)) res.2) : am_W (X_Club_keep (d + 2)) 23 [some (.ref 0), some (.int x1), some (.int x2)] [] h Q :=
  b_Club_keep_23 (d := (d + 2)) (q := (am_rIpi (v := (-1)) e q))
theorem t_Club_keep_52 {d : Nat} {x1 : Int32} {x2 : Int32} {h : am_H} {Q : am_Q} {res : Int32 × am_H} (e : f_Club_keep_52 h = some res) (q : Q (some (.int res.1)) res.2) : am_W (X_Club_keep (d + 2)) 52 [some (.ref 0), some (.int x1), some (.int x2)] [] h Q :=
  b_Club_keep_52 (d := (d + 2)) (q := (am_rIpi (v := 1) e q))
theorem t_Club_keep_42 {d : Nat} {x1 : Int32} {x2 : Int32} {h : am_H} {Q : am_Q} {res : Int32 × am_H} (e : f_Club_keep_42 h x1 x2 = some res) (q : Q (some (.int res.1)) res.2) : am_W (X_Club_keep (d + 2)) 42 [some (.ref 0), some (.int x1), some (.int x2)] [] h Q :=
  b_Club_keep_42 (d := (d + 1)) (q0 := (am_okv (am_gd e))) (k := c_Shelf_holdWord (d := d) (am_shl (am_okv (am_gd e))) rfl (t_Club_keep_52 (am_ga e) q))
theorem t_Club_keep_39 {d : Nat} {x1 : Int32} {x2 : Int32} {h : am_H} {Q : am_Q} {res : Int32 × am_H} (e : f_Club_keep_39 h = some res) (q : Q (some (.int res.1)) res.2) : am_W (X_Club_keep (d + 2)) 39 [some (.ref 0), some (.int x1), some (.int x2)] [] h Q :=
  b_Club_keep_39 (d := (d + 2)) (k := (t_Club_keep_52 e q))
theorem t_Club_keep_30 {d : Nat} {x1 : Int32} {x2 : Int32} {h : am_H} {Q : am_Q} {res : Int32 × am_H} (e : f_Club_keep_30 h x1 = some res) (q : Q (some (.int res.1)) res.2) : am_W (X_Club_keep (d + 2)) 30 [some (.ref 0), some (.int x1), some (.int x2)] [] h Q :=
  b_Club_keep_30 (d := (d + 1)) (q0 := (am_okv (am_gd e))) (k := c_Shelf_holdNothing (d := d + 1) (am_shl (am_okv (am_gd e))) rfl (t_Club_keep_39 (am_ga e) q))
theorem t_Club_keep_25 {d : Nat} {x1 : Int32} {x2 : Int32} {h : am_H} {Q : am_Q} {res : Int32 × am_H} (e : f_Club_keep_25 h x1 x2 = some res) (q : Q (some (.int res.1)) res.2) : am_W (X_Club_keep (d + 2)) 25 [some (.ref 0), some (.int x1), some (.int x2)] [] h Q :=
  b_Club_keep_25 (d := (d + 2)) (kt := fun c => (t_Club_keep_42 (am_ife e c) q)) (kf := fun c => (t_Club_keep_30 (am_ift e c) q))
theorem t_Club_keep_20 {d : Nat} {x1 : Int32} {x2 : Int32} {y0 : Bool} {h : am_H} {Q : am_Q} {res : Int32 × am_H} (e : f_Club_keep_20 h x1 x2 y0 = some res) (q : Q (some (.int res.1)) res.2) : am_W (X_Club_keep (d + 2)) 20 [some (.ref 0), some (.int x1), some (.int x2)] [.int (am_b y0)] h Q :=
  b_Club_keep_20 (d := (d + 2)) (kt := fun c => (t_Club_keep_25 (am_ift e (am_bn c)) q)) (kf := fun c => (t_Club_keep_23 (am_iff e (am_bz c)) q))
theorem t_Club_keep_12 {d : Nat} {x1 : Int32} {x2 : Int32} {h : am_H} {Q : am_Q} {res : Int32 × am_H} (e : f_Club_keep_12 h x1 x2 = some res) (q : Q (some (.int res.1)) res.2) : am_W (X_Club_keep (d + 2)) 12 [some (.ref 0), some (.int x1), some (.int x2)] [] h Q :=
  b_Club_keep_12 (d := (d + 1)) (k := c_Words_hasWord (d := d + 1) rfl (t_Club_keep_20 e q))
theorem t_Club_keep_7 {d : Nat} {x1 : Int32} {x2 : Int32} {h : am_H} {Q : am_Q} {res : Int32 × am_H} (e : f_Club_keep_7 h x1 x2 = some res) (q : Q (some (.int res.1)) res.2) : am_W (X_Club_keep (d + 2)) 7 [some (.ref 0), some (.int x1), some (.int x2)] [] h Q :=
  b_Club_keep_7 (d := (d + 2)) (kt := fun c => (t_Club_keep_25 (am_ift e c) q)) (kf := fun c => (t_Club_keep_12 (am_ife e c) q))
theorem t_Club_keep_4 {d : Nat} {x1 : Int32} {x2 : Int32} {y0 : Bool} {h : am_H} {Q : am_Q} {res : Int32 × am_H} (e : f_Club_keep_4 h x1 x2 y0 = some res) (q : Q (some (.int res.1)) res.2) : am_W (X_Club_keep (d + 2)) 4 [some (.ref 0), some (.int x1), some (.int x2)] [.int (am_b y0)] h Q :=
  b_Club_keep_4 (d := (d + 2)) (kt := fun c => (t_Club_keep_23 (am_iff e (am_bz c)) q)) (kf := fun c => (t_Club_keep_7 (am_ift e (am_bn c)) q))
theorem t_Club_keep_0 {d : Nat} {x1 : Int32} {x2 : Int32} {h : am_H} {Q : am_Q} {res : Int32 × am_H} (e : f_Club_keep h x1 x2 = some res) (q : Q (some (.int res.1)) res.2) : am_W (X_Club_keep (d + 2)) 0 [some (.ref 0), some (.int x1), some (.int x2)] [] h Q :=
  b_Club_keep_0 (d := (d + 1)) (k := c_Club_isShelf (d := d + 1) rfl (t_Club_keep_4 e q))
theorem c_Club_keep {d : Nat} {x1 : Int32} {x2 : Int32} {h : am_H} {Q : am_Q} {res : Int32 × am_H} (e : f_Club_keep h x1 x2 = some res) (q : Q (some (.int res.1)) res.2) : m_Club_keep (d + 2) [.ref 0, .int x1, .int x2] h Q :=
  e_Club_keep (t_Club_keep_0 e q)
theorem d_Shelf_holdRow_0 : decode prog_9_method_5_code 0 = .ok (.aload_n 0, 1) := by decide +kernel
theorem d_Shelf_holdRow_1 : decode prog_9_method_5_code 1 = .ok (.invokevirtual 23, 3) := by decide +kernel
theorem d_Shelf_holdRow_4 : decode prog_9_method_5_code 4 = .ok (.aload_n 0, 1) := by decide +kernel
theorem d_Shelf_holdRow_5 : decode prog_9_method_5_code 5 = .ok (.getfield 9, 3) := by decide +kernel
theorem d_Shelf_holdRow_8 : decode prog_9_method_5_code 8 = .ok (.lconst 0, 1) := by decide +kernel
theorem d_Shelf_holdRow_9 : decode prog_9_method_5_code 9 = .ok (.invokestatic 26, 3) := by decide +kernel
theorem d_Shelf_holdRow_12 : decode prog_9_method_5_code 12 = .ok (.aload_n 0, 1) := by decide +kernel
theorem d_Shelf_holdRow_13 : decode prog_9_method_5_code 13 = .ok (.iload_n 1, 1) := by decide +kernel
theorem d_Shelf_holdRow_14 : decode prog_9_method_5_code 14 = .ok (.putfield 17, 3) := by decide +kernel
theorem d_Shelf_holdRow_17 : decode prog_9_method_5_code 17 = .ok (.aload_n 0, 1) := by decide +kernel
theorem d_Shelf_holdRow_18 : decode prog_9_method_5_code 18 = .ok (.iconst 0, 1) := by decide +kernel
theorem d_Shelf_holdRow_19 : decode prog_9_method_5_code 19 = .ok (.bipush 60, 2) := by decide +kernel
theorem d_Shelf_holdRow_21 : decode prog_9_method_5_code 21 = .ok (.iload_n 2, 1) := by decide +kernel
theorem d_Shelf_holdRow_22 : decode prog_9_method_5_code 22 = .ok (.invokestatic 32, 3) := by decide +kernel
theorem d_Shelf_holdRow_25 : decode prog_9_method_5_code 25 = .ok (.invokestatic 38, 3) := by decide +kernel
theorem d_Shelf_holdRow_28 : decode prog_9_method_5_code 28 = .ok (.putfield 20, 3) := by decide +kernel
theorem d_Shelf_holdRow_31 : decode prog_9_method_5_code 31 = .ok (.return_, 1) := by decide +kernel
theorem b_Shelf_holdRow_0 {d : Nat} {a0 : Nat} {x1 : Int32} {x2 : Int32} {h : am_H} {Q : am_Q} (sa0 : am_shf a0) (k : m_Shelf_holdNothing d [.ref a0] h (fun r hh => am_W (X_Shelf_holdRow (d + 1)) 4 [some (.ref a0), some (.int x1), some (.int x2)] (r.toList ++ []) hh Q)) : am_W (X_Shelf_holdRow (d + 1)) 0 [some (.ref a0), some (.int x1), some (.int x2)] [] h Q :=
  am_aload_n d_Shelf_holdRow_0 rfl (i := 0) rfl <|
    am_callV (vs := []) (st := []) (k := a0) (ci := 9) rfl d_Shelf_holdRow_1 rfl sa0.1 w_1220 w_1213 w_1214 w_93 w_1215 p_Shelf_holdNothing (Nat.le_of_ble_eq_true rfl) (Nat.le_of_ble_eq_true rfl) rfl k
theorem b_Shelf_holdRow_4 {d : Nat} {a0 : Nat} {x1 : Int32} {x2 : Int32} {h : am_H} {Q : am_Q} (sa0 : am_shf a0) (k : m_Arrays_fill_AJJ d [.ref (a0 + 1), .long 0] h (fun r hh => am_W (X_Shelf_holdRow (d + 1)) 12 [some (.ref a0), some (.int x1), some (.int x2)] (r.toList ++ []) hh Q)) : am_W (X_Shelf_holdRow (d + 1)) 4 [some (.ref a0), some (.int x1), some (.int x2)] [] h Q :=
  am_aload_n d_Shelf_holdRow_4 rfl (i := 0) rfl <|
    am_getR (ci := 9) (i := 0) rfl sa0.1 rfl (Nat.le_of_ble_eq_true rfl) w_349 d_Shelf_holdRow_5 <|
    am_lconst (v := 0) d_Shelf_holdRow_8 (by decide) <|
    am_callS (vs := [.ref (a0 + 1), .long 0]) (st := []) rfl d_Shelf_holdRow_9 w_1232 w_417 w_85 w_418 p_Arrays_fill_AJJ (Nat.le_of_ble_eq_true rfl) (Nat.le_of_ble_eq_true rfl) rfl k
theorem b_Shelf_holdRow_12 {d : Nat} {a0 : Nat} {x1 : Int32} {x2 : Int32} {h : am_H} {Q : am_Q} (sa0 : am_shf a0) (q : Q none (am_pI (am_pI h a0 2 x1) a0 3 (if (0 : Int32) < (if x2 < (60 : Int32) then x2 else (60 : Int32)) then (if x2 < (60 : Int32) then x2 else (60 : Int32)) else (0 : Int32)))) : am_W (X_Shelf_holdRow d) 12 [some (.ref a0), some (.int x1), some (.int x2)] [] h Q :=
  am_aload_n d_Shelf_holdRow_12 rfl (i := 0) rfl <|
    am_iload_n d_Shelf_holdRow_13 rfl (i := 1) rfl <|
    am_putI (ci := 9) (i := 2) rfl sa0.1 rfl (Nat.le_of_ble_eq_true rfl) w_351 rfl rfl rfl d_Shelf_holdRow_14 <|
    am_aload_n d_Shelf_holdRow_17 rfl (i := 0) rfl <|
    am_iconst (v := 0) d_Shelf_holdRow_18 (by decide) <|
    am_bipush (v := 60) d_Shelf_holdRow_19 (by decide) <|
    am_iload_n d_Shelf_holdRow_21 rfl (i := 2) rfl <|
    am_mmin w_1233 d_Shelf_holdRow_22 (Nat.le_of_ble_eq_true rfl) <|
    am_mmax w_1234 d_Shelf_holdRow_25 (Nat.le_of_ble_eq_true rfl) <|
    am_putI (ci := 9) (i := 3) rfl sa0.1 rfl (Nat.le_of_ble_eq_true rfl) w_352 rfl rfl rfl d_Shelf_holdRow_28 <|
    am_vret rfl d_Shelf_holdRow_31 q
theorem t_Shelf_holdRow_12 {d : Nat} {a0 : Nat} {x1 : Int32} {x2 : Int32} {h : am_H} {Q : am_Q} {res : am_H} (sa0 : am_shf a0) (e : f_Shelf_holdRow_12 h a0 x1 x2 = some res) (q : Q none res) : am_W (X_Shelf_holdRow (d + 1)) 12 [some (.ref a0), some (.int x1), some (.int x2)] [] h Q :=
  b_Shelf_holdRow_12 (d := (d + 1)) (sa0 := sa0) (q := (am_rVpi e q))
theorem t_Shelf_holdRow_4 {d : Nat} {a0 : Nat} {x1 : Int32} {x2 : Int32} {h : am_H} {Q : am_Q} {res : am_H} (sa0 : am_shf a0) (e : f_Shelf_holdRow_4 h a0 x1 x2 = some res) (q : Q none res) : am_W (X_Shelf_holdRow (d + 1)) 4 [some (.ref a0), some (.int x1), some (.int x2)] [] h Q :=
  (am_bd e).elim fun p hp => b_Shelf_holdRow_4 (d := d) (sa0 := sa0) (k := c_Arrays_fill_AJJ (d := d) sa0.2 hp.1 (t_Shelf_holdRow_12 sa0 hp.2 q))
theorem t_Shelf_holdRow_0 {d : Nat} {a0 : Nat} {x1 : Int32} {x2 : Int32} {h : am_H} {Q : am_Q} {res : am_H} (sa0 : am_shf a0) (e : f_Shelf_holdRow h a0 x1 x2 = some res) (q : Q none res) : am_W (X_Shelf_holdRow (d + 1)) 0 [some (.ref a0), some (.int x1), some (.int x2)] [] h Q :=
  b_Shelf_holdRow_0 (d := d) (sa0 := sa0) (k := c_Shelf_holdNothing (d := d) sa0 rfl (t_Shelf_holdRow_4 sa0 e q))
theorem c_Shelf_holdRow {d : Nat} {a0 : Nat} {x1 : Int32} {x2 : Int32} {h : am_H} {Q : am_Q} {res : am_H} (sa0 : am_shf a0) (e : f_Shelf_holdRow h a0 x1 x2 = some res) (q : Q none res) : m_Shelf_holdRow (d + 1) [.ref a0, .int x1, .int x2] h Q :=
  e_Shelf_holdRow (t_Shelf_holdRow_0 sa0 e q)
theorem d_Shelf_isSort_0 : decode prog_9_method_2_code 0 = .ok (.iload_n 0, 1) := by decide +kernel
theorem d_Shelf_isSort_1 : decode prog_9_method_2_code 1 = .ok (.ifCond .lt 12, 3) := by decide +kernel
theorem d_Shelf_isSort_4 : decode prog_9_method_2_code 4 = .ok (.iload_n 0, 1) := by decide +kernel
theorem d_Shelf_isSort_5 : decode prog_9_method_2_code 5 = .ok (.iconst 4, 1) := by decide +kernel
theorem d_Shelf_isSort_6 : decode prog_9_method_2_code 6 = .ok (.if_icmp .gt 7, 3) := by decide +kernel
theorem d_Shelf_isSort_9 : decode prog_9_method_2_code 9 = .ok (.iconst 1, 1) := by decide +kernel
theorem d_Shelf_isSort_10 : decode prog_9_method_2_code 10 = .ok (.goto 4, 3) := by decide +kernel
theorem d_Shelf_isSort_13 : decode prog_9_method_2_code 13 = .ok (.iconst 0, 1) := by decide +kernel
theorem d_Shelf_isSort_14 : decode prog_9_method_2_code 14 = .ok (.ireturn, 1) := by decide +kernel
theorem b_Shelf_isSort_0 {d : Nat} {x0 : Int32} {h : am_H} {Q : am_Q} (kt : x0 < 0 → am_W (X_Shelf_isSort d) 13 [some (.int x0)] [] h Q) (kf : ¬ x0 < 0 → am_W (X_Shelf_isSort d) 4 [some (.int x0)] [] h Q) : am_W (X_Shelf_isSort d) 0 [some (.int x0)] [] h Q :=
  am_iload_n d_Shelf_isSort_0 rfl (i := 0) rfl <|
    am_if_lt (tgt := 13) d_Shelf_isSort_1 (by decide) kt kf
theorem b_Shelf_isSort_4 {d : Nat} {x0 : Int32} {h : am_H} {Q : am_Q} (kt : 4 < x0 → am_W (X_Shelf_isSort d) 13 [some (.int x0)] [] h Q) (kf : ¬ 4 < x0 → am_W (X_Shelf_isSort d) 9 [some (.int x0)] [] h Q) : am_W (X_Shelf_isSort d) 4 [some (.int x0)] [] h Q :=
  am_iload_n d_Shelf_isSort_4 rfl (i := 0) rfl <|
    am_iconst (v := 4) d_Shelf_isSort_5 (by decide) <|
    am_icmp_gt (tgt := 13) d_Shelf_isSort_6 (by decide) kt kf
theorem b_Shelf_isSort_9 {d : Nat} {x0 : Int32} {h : am_H} {Q : am_Q} (q : Q (some (.int 1)) h) : am_W (X_Shelf_isSort d) 9 [some (.int x0)] [] h Q :=
  am_iconst (v := 1) d_Shelf_isSort_9 (by decide) <|
    am_goto (tgt := 14) d_Shelf_isSort_10 (by decide) <|
    am_zret (ty := .boolean) rfl (by decide) d_Shelf_isSort_14 q
theorem b_Shelf_isSort_13 {d : Nat} {x0 : Int32} {h : am_H} {Q : am_Q} (q : Q (some (.int 0)) h) : am_W (X_Shelf_isSort d) 13 [some (.int x0)] [] h Q :=
  am_iconst (v := 0) d_Shelf_isSort_13 (by decide) <|
    am_zret (ty := .boolean) rfl (by decide) d_Shelf_isSort_14 q
theorem t_Shelf_isSort_13 {d : Nat} {x0 : Int32} {h : am_H} {Q : am_Q} {res : Bool} (e : f_Shelf_isSort_13 = res) (q : Q (some (.int (am_b res))) h) : am_W (X_Shelf_isSort d) 13 [some (.int x0)] [] h Q :=
  b_Shelf_isSort_13 (d := d) (q := (am_rZt (v := false) e q))
theorem t_Shelf_isSort_9 {d : Nat} {x0 : Int32} {h : am_H} {Q : am_Q} {res : Bool} (e : f_Shelf_isSort_9 = res) (q : Q (some (.int (am_b res))) h) : am_W (X_Shelf_isSort d) 9 [some (.int x0)] [] h Q :=
  b_Shelf_isSort_9 (d := d) (q := (am_rZt (v := true) e q))
theorem t_Shelf_isSort_4 {d : Nat} {x0 : Int32} {h : am_H} {Q : am_Q} {res : Bool} (e : f_Shelf_isSort_4 x0 = res) (q : Q (some (.int (am_b res))) h) : am_W (X_Shelf_isSort d) 4 [some (.int x0)] [] h Q :=
  b_Shelf_isSort_4 (d := d) (kt := fun c => (t_Shelf_isSort_13 (am_ift e c) q)) (kf := fun c => (t_Shelf_isSort_9 (am_ife e c) q))
theorem t_Shelf_isSort_0 {d : Nat} {x0 : Int32} {h : am_H} {Q : am_Q} {res : Bool} (e : f_Shelf_isSort x0 = res) (q : Q (some (.int (am_b res))) h) : am_W (X_Shelf_isSort d) 0 [some (.int x0)] [] h Q :=
  b_Shelf_isSort_0 (d := d) (kt := fun c => (t_Shelf_isSort_13 (am_ift e c) q)) (kf := fun c => (t_Shelf_isSort_4 (am_ife e c) q))
theorem c_Shelf_isSort {d : Nat} {x0 : Int32} {h : am_H} {Q : am_Q} {res : Bool} (e : f_Shelf_isSort x0 = res) (q : Q (some (.int (am_b res))) h) : m_Shelf_isSort d [.int x0] h Q :=
  e_Shelf_isSort (t_Shelf_isSort_0 e q)
theorem d_Club_row_0 : decode prog_1_method_36_code 0 = .ok (.iload_n 1, 1) := by decide +kernel
theorem d_Club_row_1 : decode prog_1_method_36_code 1 = .ok (.invokestatic 95, 3) := by decide +kernel
theorem d_Club_row_4 : decode prog_1_method_36_code 4 = .ok (.ifCond .eq 16, 3) := by decide +kernel
theorem d_Club_row_7 : decode prog_1_method_36_code 7 = .ok (.iload_n 2, 1) := by decide +kernel
theorem d_Club_row_8 : decode prog_1_method_36_code 8 = .ok (.invokestatic 340, 3) := by decide +kernel
theorem d_Club_row_11 : decode prog_1_method_36_code 11 = .ok (.ifCond .eq 9, 3) := by decide +kernel
theorem d_Club_row_14 : decode prog_1_method_36_code 14 = .ok (.iload_n 3, 1) := by decide +kernel
theorem d_Club_row_15 : decode prog_1_method_36_code 15 = .ok (.bipush 60, 2) := by decide +kernel
theorem d_Club_row_17 : decode prog_1_method_36_code 17 = .ok (.if_icmp .le 5, 3) := by decide +kernel
theorem d_Club_row_20 : decode prog_1_method_36_code 20 = .ok (.iconst (-1), 1) := by decide +kernel
theorem d_Club_row_21 : decode prog_1_method_36_code 21 = .ok (.ireturn, 1) := by decide +kernel
theorem d_Club_row_22 : decode prog_1_method_36_code 22 = .ok (.iload_n 3, 1) := by decide +kernel
theorem d_Club_row_23 : decode prog_1_method_36_code 23 = .ok (.ifCond .ge 6, 3) := by decide +kernel
theorem d_Club_row_26 : decode prog_1_method_36_code 26 = .ok (.bipush (-14), 2) := by decide +kernel
theorem d_Club_row_28 : decode prog_1_method_36_code 28 = .ok (.ireturn, 1) := by decide +kernel
theorem d_Club_row_29 : decode prog_1_method_36_code 29 = .ok (.aload_n 0, 1) := by decide +kernel
theorem d_Club_row_30 : decode prog_1_method_36_code 30 = .ok (.getfield 75, 3) := by decide +kernel
theorem d_Club_row_33 : decode prog_1_method_36_code 33 = .ok (.iload_n 1, 1) := by decide +kernel
theorem d_Club_row_34 : decode prog_1_method_36_code 34 = .ok (.aaload, 1) := by decide +kernel
theorem d_Club_row_35 : decode prog_1_method_36_code 35 = .ok (.iload_n 2, 1) := by decide +kernel
theorem d_Club_row_36 : decode prog_1_method_36_code 36 = .ok (.iload_n 3, 1) := by decide +kernel
theorem d_Club_row_37 : decode prog_1_method_36_code 37 = .ok (.invokevirtual 343, 3) := by decide +kernel
theorem d_Club_row_40 : decode prog_1_method_36_code 40 = .ok (.iconst 1, 1) := by decide +kernel
theorem d_Club_row_41 : decode prog_1_method_36_code 41 = .ok (.ireturn, 1) := by decide +kernel
theorem b_Club_row_0 {d : Nat} {x1 : Int32} {x2 : Int32} {x3 : Int32} {h : am_H} {Q : am_Q} (k : m_Club_isShelf d [.int x1] h (fun r hh => am_W (X_Club_row (d + 1)) 4 [some (.ref 0), some (.int x1), some (.int x2), some (.int x3)] (r.toList ++ []) hh Q)) : am_W (X_Club_row (d + 1)) 0 [some (.ref 0), some (.int x1), some (.int x2), some (.int x3)] [] h Q :=
  am_iload_n d_Club_row_0 rfl (i := 1) rfl <|
    am_callS (vs := [.int x1]) (st := []) rfl d_Club_row_1 w_431 w_432 w_83 w_433 p_Club_isShelf (Nat.le_of_ble_eq_true rfl) (Nat.le_of_ble_eq_true rfl) rfl k
theorem b_Club_row_4 {d : Nat} {x1 : Int32} {x2 : Int32} {x3 : Int32} {y0 : Bool} {h : am_H} {Q : am_Q} (kt : (am_b y0) = 0 → am_W (X_Club_row d) 20 [some (.ref 0), some (.int x1), some (.int x2), some (.int x3)] [] h Q) (kf : ¬ (am_b y0) = 0 → am_W (X_Club_row d) 7 [some (.ref 0), some (.int x1), some (.int x2), some (.int x3)] [] h Q) : am_W (X_Club_row d) 4 [some (.ref 0), some (.int x1), some (.int x2), some (.int x3)] [.int (am_b y0)] h Q :=
  am_if_eq (tgt := 20) d_Club_row_4 (by decide) kt kf
theorem b_Club_row_7 {d : Nat} {x1 : Int32} {x2 : Int32} {x3 : Int32} {h : am_H} {Q : am_Q} (k : m_Shelf_isSort d [.int x2] h (fun r hh => am_W (X_Club_row (d + 1)) 11 [some (.ref 0), some (.int x1), some (.int x2), some (.int x3)] (r.toList ++ []) hh Q)) : am_W (X_Club_row (d + 1)) 7 [some (.ref 0), some (.int x1), some (.int x2), some (.int x3)] [] h Q :=
  am_iload_n d_Club_row_7 rfl (i := 2) rfl <|
    am_callS (vs := [.int x2]) (st := []) rfl d_Club_row_8 w_1225 w_1226 w_93 w_1227 p_Shelf_isSort (Nat.le_of_ble_eq_true rfl) (Nat.le_of_ble_eq_true rfl) rfl k
theorem b_Club_row_11 {d : Nat} {x1 : Int32} {x2 : Int32} {x3 : Int32} {y0 : Bool} {h : am_H} {Q : am_Q} (kt : (am_b y0) = 0 → am_W (X_Club_row d) 20 [some (.ref 0), some (.int x1), some (.int x2), some (.int x3)] [] h Q) (kf : ¬ (am_b y0) = 0 → am_W (X_Club_row d) 14 [some (.ref 0), some (.int x1), some (.int x2), some (.int x3)] [] h Q) : am_W (X_Club_row d) 11 [some (.ref 0), some (.int x1), some (.int x2), some (.int x3)] [.int (am_b y0)] h Q :=
  am_if_eq (tgt := 20) d_Club_row_11 (by decide) kt kf
theorem b_Club_row_14 {d : Nat} {x1 : Int32} {x2 : Int32} {x3 : Int32} {h : am_H} {Q : am_Q} (kt : x3 ≤ 60 → am_W (X_Club_row d) 22 [some (.ref 0), some (.int x1), some (.int x2), some (.int x3)] [] h Q) (kf : ¬ x3 ≤ 60 → am_W (X_Club_row d) 20 [some (.ref 0), some (.int x1), some (.int x2), some (.int x3)] [] h Q) : am_W (X_Club_row d) 14 [some (.ref 0), some (.int x1), some (.int x2), some (.int x3)] [] h Q :=
  am_iload_n d_Club_row_14 rfl (i := 3) rfl <|
    am_bipush (v := 60) d_Club_row_15 (by decide) <|
    am_icmp_le (tgt := 22) d_Club_row_17 (by decide) kt kf
theorem b_Club_row_20 {d : Nat} {x1 : Int32} {x2 : Int32} {x3 : Int32} {h : am_H} {Q : am_Q} (q : Q (some (.int (-1))) h) : am_W (X_Club_row d) 20 [some (.ref 0), some (.int x1), some (.int x2), some (.int x3)] [] h Q :=
  am_iconst (v := (-1)) d_Club_row_20 (by decide) <|
    am_iret rfl d_Club_row_21 q
theorem b_Club_row_22 {d : Nat} {x1 : Int32} {x2 : Int32} {x3 : Int32} {h : am_H} {Q : am_Q} (kt : 0 ≤ x3 → am_W (X_Club_row d) 29 [some (.ref 0), some (.int x1), some (.int x2), some (.int x3)] [] h Q) (kf : ¬ 0 ≤ x3 → am_W (X_Club_row d) 26 [some (.ref 0), some (.int x1), some (.int x2), some (.int x3)] [] h Q) : am_W (X_Club_row d) 22 [some (.ref 0), some (.int x1), some (.int x2), some (.int x3)] [] h Q :=
  am_iload_n d_Club_row_22 rfl (i := 3) rfl <|
    am_if_ge (tgt := 29) d_Club_row_23 (by decide) kt kf
theorem b_Club_row_26 {d : Nat} {x1 : Int32} {x2 : Int32} {x3 : Int32} {h : am_H} {Q : am_Q} (q : Q (some (.int (-14))) h) : am_W (X_Club_row d) 26 [some (.ref 0), some (.int x1), some (.int x2), some (.int x3)] [] h Q :=
  am_bipush (v := (-14)) d_Club_row_26 (by decide) <|
    am_iret rfl d_Club_row_28 q
theorem b_Club_row_29 {d : Nat} {x1 : Int32} {x2 : Int32} {x3 : Int32} {h : am_H} {Q : am_Q} (q0 : vp_in x1 6) (k : m_Shelf_holdRow d [.ref (am_shp x1), .int x2, .int x3] h (fun r hh => am_W (X_Club_row (d + 1)) 40 [some (.ref 0), some (.int x1), some (.int x2), some (.int x3)] (r.toList ++ []) hh Q)) : am_W (X_Club_row (d + 1)) 29 [some (.ref 0), some (.int x1), some (.int x2), some (.int x3)] [] h Q :=
  am_aload_n d_Club_row_29 rfl (i := 0) rfl <|
    am_getR (ci := 0) (i := 8) rfl rfl rfl (Nat.le_of_ble_eq_true rfl) w_370 d_Club_row_30 <|
    am_iload_n d_Club_row_33 rfl (i := 1) rfl <|
    am_aald (q := am_shp x1) rfl q0 (am_shq q0) d_Club_row_34 <|
    am_iload_n d_Club_row_35 rfl (i := 2) rfl <|
    am_iload_n d_Club_row_36 rfl (i := 3) rfl <|
    am_callV (vs := [.int x2, .int x3]) (st := []) (k := (am_shp x1)) (ci := 9) rfl d_Club_row_37 rfl (am_shl q0).1 w_1228 w_1229 w_1230 w_93 w_1231 p_Shelf_holdRow (Nat.le_of_ble_eq_true rfl) (Nat.le_of_ble_eq_true rfl) rfl k
theorem b_Club_row_40 {d : Nat} {x1 : Int32} {x2 : Int32} {x3 : Int32} {h : am_H} {Q : am_Q} (q : Q (some (.int 1)) h) : am_W (X_Club_row d) 40 [some (.ref 0), some (.int x1), some (.int x2), some (.int x3)] [] h Q :=
  am_iconst (v := 1) d_Club_row_40 (by decide) <|
    am_iret rfl d_Club_row_41 q
theorem t_Club_row_20 {d : Nat} {x1 : Int32} {x2 : Int32} {x3 : Int32} {h : am_H} {Q : am_Q} {res : Int32 × am_H} (e : f_Club_row_20 h = some res) (q : Q (some (.int res.1)) res.2) : am_W (X_Club_row (d + 2)) 20 [some (.ref 0), some (.int x1), some (.int x2), some (.int x3)] [] h Q :=
  b_Club_row_20 (d := (d + 2)) (q := (am_rIpi (v := (-1)) e q))
theorem t_Club_row_40 {d : Nat} {x1 : Int32} {x2 : Int32} {x3 : Int32} {h : am_H} {Q : am_Q} {res : Int32 × am_H} (e : f_Club_row_40 h = some res) (q : Q (some (.int res.1)) res.2) : am_W (X_Club_row (d + 2)) 40 [some (.ref 0), some (.int x1), some (.int x2), some (.int x3)] [] h Q :=
  b_Club_row_40 (d := (d + 2)) (q := (am_rIpi (v := 1) e q))
theorem t_Club_row_29 {d : Nat} {x1 : Int32} {x2 : Int32} {x3 : Int32} {h : am_H} {Q : am_Q} {res : Int32 × am_H} (e : f_Club_row_29 h x1 x2 x3 = some res) (q : Q (some (.int res.1)) res.2) : am_W (X_Club_row (d + 2)) 29 [some (.ref 0), some (.int x1), some (.int x2), some (.int x3)] [] h Q :=
  (am_bd (am_ga e)).elim fun p hp => b_Club_row_29 (d := (d + 1)) (q0 := (am_okv (am_gd e))) (k := c_Shelf_holdRow (d := d) (am_shl (am_okv (am_gd e))) hp.1 (t_Club_row_40 hp.2 q))
theorem t_Club_row_26 {d : Nat} {x1 : Int32} {x2 : Int32} {x3 : Int32} {h : am_H} {Q : am_Q} {res : Int32 × am_H} (e : f_Club_row_26 h = some res) (q : Q (some (.int res.1)) res.2) : am_W (X_Club_row (d + 2)) 26 [some (.ref 0), some (.int x1), some (.int x2), some (.int x3)] [] h Q :=
  b_Club_row_26 (d := (d + 2)) (q := (am_rIpi (v := (-14)) e q))
theorem t_Club_row_22 {d : Nat} {x1 : Int32} {x2 : Int32} {x3 : Int32} {h : am_H} {Q : am_Q} {res : Int32 × am_H} (e : f_Club_row_22 h x1 x2 x3 = some res) (q : Q (some (.int res.1)) res.2) : am_W (X_Club_row (d + 2)) 22 [some (.ref 0), some (.int x1), some (.int x2), some (.int x3)] [] h Q :=
  b_Club_row_22 (d := (d + 2)) (kt := fun c => (t_Club_row_29 (am_ift e c) q)) (kf := fun c => (t_Club_row_26 (am_ife e c) q))
theorem t_Club_row_14 {d : Nat} {x1 : Int32} {x2 : Int32} {x3 : Int32} {h : am_H} {Q : am_Q} {res : Int32 × am_H} (e : f_Club_row_14 h x1 x2 x3 = some res) (q : Q (some (.int res.1)) res.2) : am_W (X_Club_row (d + 2)) 14 [some (.ref 0), some (.int x1), some (.int x2), some (.int x3)] [] h Q :=
  b_Club_row_14 (d := (d + 2)) (kt := fun c => (t_Club_row_22 (am_ift e c) q)) (kf := fun c => (t_Club_row_20 (am_ife e c) q))
theorem t_Club_row_11 {d : Nat} {x1 : Int32} {x2 : Int32} {x3 : Int32} {y0 : Bool} {h : am_H} {Q : am_Q} {res : Int32 × am_H} (e : f_Club_row_11 h x1 x2 x3 y0 = some res) (q : Q (some (.int res.1)) res.2) : am_W (X_Club_row (d + 2)) 11 [some (.ref 0), some (.int x1), some (.int x2), some (.int x3)] [.int (am_b y0)] h Q :=
  b_Club_row_11 (d := (d + 2)) (kt := fun c => (t_Club_row_20 (am_iff e (am_bz c)) q)) (kf := fun c => (t_Club_row_14 (am_ift e (am_bn c)) q))
theorem t_Club_row_7 {d : Nat} {x1 : Int32} {x2 : Int32} {x3 : Int32} {h : am_H} {Q : am_Q} {res : Int32 × am_H} (e : f_Club_row_7 h x1 x2 x3 = some res) (q : Q (some (.int res.1)) res.2) : am_W (X_Club_row (d + 2)) 7 [some (.ref 0), some (.int x1), some (.int x2), some (.int x3)] [] h Q :=
  b_Club_row_7 (d := (d + 1)) (k := c_Shelf_isSort (d := d + 1) rfl (t_Club_row_11 e q))
theorem t_Club_row_4 {d : Nat} {x1 : Int32} {x2 : Int32} {x3 : Int32} {y0 : Bool} {h : am_H} {Q : am_Q} {res : Int32 × am_H} (e : f_Club_row_4 h x1 x2 x3 y0 = some res) (q : Q (some (.int res.1)) res.2) : am_W (X_Club_row (d + 2)) 4 [some (.ref 0), some (.int x1), some (.int x2), some (.int x3)] [.int (am_b y0)] h Q :=
  b_Club_row_4 (d := (d + 2)) (kt := fun c => (t_Club_row_20 (am_iff e (am_bz c)) q)) (kf := fun c => (t_Club_row_7 (am_ift e (am_bn c)) q))
theorem t_Club_row_0 {d : Nat} {x1 : Int32} {x2 : Int32} {x3 : Int32} {h : am_H} {Q : am_Q} {res : Int32 × am_H} (e : f_Club_row h x1 x2 x3 = some res) (q : Q (some (.int res.1)) res.2) : am_W (X_Club_row (d + 2)) 0 [some (.ref 0), some (.int x1), some (.int x2), some (.int x3)] [] h Q :=
  b_Club_row_0 (d := (d + 1)) (k := c_Club_isShelf (d := d + 1) rfl (t_Club_row_4 e q))
theorem c_Club_row {d : Nat} {x1 : Int32} {x2 : Int32} {x3 : Int32} {h : am_H} {Q : am_Q} {res : Int32 × am_H} (e : f_Club_row h x1 x2 x3 = some res) (q : Q (some (.int res.1)) res.2) : m_Club_row (d + 2) [.ref 0, .int x1, .int x2, .int x3] h Q :=
  e_Club_row (t_Club_row_0 e q)
theorem d_Shelf_isRow_0 : decode prog_9_method_7_code 0 = .ok (.aload_n 0, 1) := by decide +kernel
theorem d_Shelf_isRow_1 : decode prog_9_method_7_code 1 = .ok (.getfield 17, 3) := by decide +kernel
theorem d_Shelf_isRow_4 : decode prog_9_method_7_code 4 = .ok (.iconst (-1), 1) := by decide +kernel
theorem d_Shelf_isRow_5 : decode prog_9_method_7_code 5 = .ok (.if_icmp .eq 7, 3) := by decide +kernel
theorem d_Shelf_isRow_8 : decode prog_9_method_7_code 8 = .ok (.iconst 1, 1) := by decide +kernel
theorem d_Shelf_isRow_9 : decode prog_9_method_7_code 9 = .ok (.goto 4, 3) := by decide +kernel
theorem d_Shelf_isRow_12 : decode prog_9_method_7_code 12 = .ok (.iconst 0, 1) := by decide +kernel
theorem d_Shelf_isRow_13 : decode prog_9_method_7_code 13 = .ok (.ireturn, 1) := by decide +kernel
theorem b_Shelf_isRow_0 {d : Nat} {a0 : Nat} {h : am_H} {Q : am_Q} (sa0 : am_shf a0) (kt : (h.1 a0 2) = (-1) → am_W (X_Shelf_isRow d) 12 [some (.ref a0)] [] h Q) (kf : ¬ (h.1 a0 2) = (-1) → am_W (X_Shelf_isRow d) 8 [some (.ref a0)] [] h Q) : am_W (X_Shelf_isRow d) 0 [some (.ref a0)] [] h Q :=
  am_aload_n d_Shelf_isRow_0 rfl (i := 0) rfl <|
    am_getI (ci := 9) (i := 2) rfl sa0.1 rfl (Nat.le_of_ble_eq_true rfl) w_351 d_Shelf_isRow_1 <|
    am_iconst (v := (-1)) d_Shelf_isRow_4 (by decide) <|
    am_icmp_eq (tgt := 12) d_Shelf_isRow_5 (by decide) kt kf
theorem b_Shelf_isRow_8 {d : Nat} {a0 : Nat} {h : am_H} {Q : am_Q} (sa0 : am_shf a0) (q : Q (some (.int 1)) h) : am_W (X_Shelf_isRow d) 8 [some (.ref a0)] [] h Q :=
  am_iconst (v := 1) d_Shelf_isRow_8 (by decide) <|
    am_goto (tgt := 13) d_Shelf_isRow_9 (by decide) <|
    am_zret (ty := .boolean) rfl (by decide) d_Shelf_isRow_13 q
theorem b_Shelf_isRow_12 {d : Nat} {a0 : Nat} {h : am_H} {Q : am_Q} (sa0 : am_shf a0) (q : Q (some (.int 0)) h) : am_W (X_Shelf_isRow d) 12 [some (.ref a0)] [] h Q :=
  am_iconst (v := 0) d_Shelf_isRow_12 (by decide) <|
    am_zret (ty := .boolean) rfl (by decide) d_Shelf_isRow_13 q
theorem t_Shelf_isRow_12 {d : Nat} {a0 : Nat} {h : am_H} {Q : am_Q} {res : Bool} (sa0 : am_shf a0) (e : f_Shelf_isRow_12 h = res) (q : Q (some (.int (am_b res))) h) : am_W (X_Shelf_isRow d) 12 [some (.ref a0)] [] h Q :=
  b_Shelf_isRow_12 (d := d) (sa0 := sa0) (q := (am_rZt (v := false) e q))
theorem t_Shelf_isRow_8 {d : Nat} {a0 : Nat} {h : am_H} {Q : am_Q} {res : Bool} (sa0 : am_shf a0) (e : f_Shelf_isRow_8 h = res) (q : Q (some (.int (am_b res))) h) : am_W (X_Shelf_isRow d) 8 [some (.ref a0)] [] h Q :=
  b_Shelf_isRow_8 (d := d) (sa0 := sa0) (q := (am_rZt (v := true) e q))
theorem t_Shelf_isRow_0 {d : Nat} {a0 : Nat} {h : am_H} {Q : am_Q} {res : Bool} (sa0 : am_shf a0) (e : f_Shelf_isRow h a0 = res) (q : Q (some (.int (am_b res))) h) : am_W (X_Shelf_isRow d) 0 [some (.ref a0)] [] h Q :=
  b_Shelf_isRow_0 (d := d) (sa0 := sa0) (kt := fun c => (t_Shelf_isRow_12 sa0 (am_ift e c) q)) (kf := fun c => (t_Shelf_isRow_8 sa0 (am_ife e c) q))
theorem c_Shelf_isRow {d : Nat} {a0 : Nat} {h : am_H} {Q : am_Q} {res : Bool} (sa0 : am_shf a0) (e : f_Shelf_isRow h a0 = res) (q : Q (some (.int (am_b res))) h) : m_Shelf_isRow d [.ref a0] h Q :=
  e_Shelf_isRow (t_Shelf_isRow_0 sa0 e q)
theorem d_Club_refuseElement_0 : decode prog_1_method_42_code 0 = .ok (.iload_n 1, 1) := by decide +kernel
theorem d_Club_refuseElement_1 : decode prog_1_method_42_code 1 = .ok (.invokestatic 95, 3) := by decide +kernel
theorem d_Club_refuseElement_4 : decode prog_1_method_42_code 4 = .ok (.ifCond .ne 5, 3) := by decide +kernel
theorem d_Club_refuseElement_7 : decode prog_1_method_42_code 7 = .ok (.iconst (-1), 1) := by decide +kernel
theorem d_Club_refuseElement_8 : decode prog_1_method_42_code 8 = .ok (.ireturn, 1) := by decide +kernel
theorem d_Club_refuseElement_9 : decode prog_1_method_42_code 9 = .ok (.aload_n 0, 1) := by decide +kernel
theorem d_Club_refuseElement_10 : decode prog_1_method_42_code 10 = .ok (.getfield 75, 3) := by decide +kernel
theorem d_Club_refuseElement_13 : decode prog_1_method_42_code 13 = .ok (.iload_n 1, 1) := by decide +kernel
theorem d_Club_refuseElement_14 : decode prog_1_method_42_code 14 = .ok (.aaload, 1) := by decide +kernel
theorem d_Club_refuseElement_15 : decode prog_1_method_42_code 15 = .ok (.astore_n 3, 1) := by decide +kernel
theorem d_Club_refuseElement_16 : decode prog_1_method_42_code 16 = .ok (.aload_n 3, 1) := by decide +kernel
theorem d_Club_refuseElement_17 : decode prog_1_method_42_code 17 = .ok (.invokevirtual 99, 3) := by decide +kernel
theorem d_Club_refuseElement_20 : decode prog_1_method_42_code 20 = .ok (.ifCond .eq 6, 3) := by decide +kernel
theorem d_Club_refuseElement_23 : decode prog_1_method_42_code 23 = .ok (.bipush (-11), 2) := by decide +kernel
theorem d_Club_refuseElement_25 : decode prog_1_method_42_code 25 = .ok (.ireturn, 1) := by decide +kernel
theorem d_Club_refuseElement_26 : decode prog_1_method_42_code 26 = .ok (.aload_n 3, 1) := by decide +kernel
theorem d_Club_refuseElement_27 : decode prog_1_method_42_code 27 = .ok (.invokevirtual 356, 3) := by decide +kernel
theorem d_Club_refuseElement_30 : decode prog_1_method_42_code 30 = .ok (.ifCond .ne 6, 3) := by decide +kernel
theorem d_Club_refuseElement_33 : decode prog_1_method_42_code 33 = .ok (.bipush (-12), 2) := by decide +kernel
theorem d_Club_refuseElement_35 : decode prog_1_method_42_code 35 = .ok (.ireturn, 1) := by decide +kernel
theorem d_Club_refuseElement_36 : decode prog_1_method_42_code 36 = .ok (.aload_n 3, 1) := by decide +kernel
theorem d_Club_refuseElement_37 : decode prog_1_method_42_code 37 = .ok (.iload_n 2, 1) := by decide +kernel
theorem d_Club_refuseElement_38 : decode prog_1_method_42_code 38 = .ok (.iconst 1, 1) := by decide +kernel
theorem d_Club_refuseElement_39 : decode prog_1_method_42_code 39 = .ok (.invokevirtual 362, 3) := by decide +kernel
theorem d_Club_refuseElement_42 : decode prog_1_method_42_code 42 = .ok (.ifCond .eq 7, 3) := by decide +kernel
theorem d_Club_refuseElement_45 : decode prog_1_method_42_code 45 = .ok (.iconst 0, 1) := by decide +kernel
theorem d_Club_refuseElement_46 : decode prog_1_method_42_code 46 = .ok (.goto 5, 3) := by decide +kernel
theorem d_Club_refuseElement_49 : decode prog_1_method_42_code 49 = .ok (.bipush (-13), 2) := by decide +kernel
theorem d_Club_refuseElement_51 : decode prog_1_method_42_code 51 = .ok (.ireturn, 1) := by decide +kernel
theorem b_Club_refuseElement_0 {d : Nat} {x1 : Int32} {x2 : Int32} {h : am_H} {Q : am_Q} (k : m_Club_isShelf d [.int x1] h (fun r hh => am_W (X_Club_refuseElement (d + 1)) 4 [some (.ref 0), some (.int x1), some (.int x2), none] (r.toList ++ []) hh Q)) : am_W (X_Club_refuseElement (d + 1)) 0 [some (.ref 0), some (.int x1), some (.int x2), none] [] h Q :=
  am_iload_n d_Club_refuseElement_0 rfl (i := 1) rfl <|
    am_callS (vs := [.int x1]) (st := []) rfl d_Club_refuseElement_1 w_431 w_432 w_83 w_433 p_Club_isShelf (Nat.le_of_ble_eq_true rfl) (Nat.le_of_ble_eq_true rfl) rfl k
theorem b_Club_refuseElement_4 {d : Nat} {x1 : Int32} {x2 : Int32} {y0 : Bool} {h : am_H} {Q : am_Q} (kt : ¬ (am_b y0) = 0 → am_W (X_Club_refuseElement d) 9 [some (.ref 0), some (.int x1), some (.int x2), none] [] h Q) (kf : (am_b y0) = 0 → am_W (X_Club_refuseElement d) 7 [some (.ref 0), some (.int x1), some (.int x2), none] [] h Q) : am_W (X_Club_refuseElement d) 4 [some (.ref 0), some (.int x1), some (.int x2), none] [.int (am_b y0)] h Q :=
  am_if_ne (tgt := 9) d_Club_refuseElement_4 (by decide) kt kf
theorem b_Club_refuseElement_7 {d : Nat} {x1 : Int32} {x2 : Int32} {h : am_H} {Q : am_Q} (q : Q (some (.int (-1))) h) : am_W (X_Club_refuseElement d) 7 [some (.ref 0), some (.int x1), some (.int x2), none] [] h Q :=
  am_iconst (v := (-1)) d_Club_refuseElement_7 (by decide) <|
    am_iret rfl d_Club_refuseElement_8 q
theorem b_Club_refuseElement_9 {d : Nat} {x1 : Int32} {x2 : Int32} {h : am_H} {Q : am_Q} (q0 : vp_in x1 6) (k : m_Shelf_isEmpty d [.ref (am_shp x1)] h (fun r hh => am_W (X_Club_refuseElement (d + 1)) 20 [some (.ref 0), some (.int x1), some (.int x2), some (.ref (am_shp x1))] (r.toList ++ []) hh Q)) : am_W (X_Club_refuseElement (d + 1)) 9 [some (.ref 0), some (.int x1), some (.int x2), none] [] h Q :=
  am_aload_n d_Club_refuseElement_9 rfl (i := 0) rfl <|
    am_getR (ci := 0) (i := 8) rfl rfl rfl (Nat.le_of_ble_eq_true rfl) w_370 d_Club_refuseElement_10 <|
    am_iload_n d_Club_refuseElement_13 rfl (i := 1) rfl <|
    am_aald (q := am_shp x1) rfl q0 (am_shq q0) d_Club_refuseElement_14 <|
    am_astore_n (ls' := [some (.ref 0), some (.int x1), some (.int x2), some (.ref (am_shp x1))]) d_Club_refuseElement_15 rfl (Nat.le_of_ble_eq_true rfl) rfl <|
    am_aload_n d_Club_refuseElement_16 rfl (i := 3) rfl <|
    am_callV (vs := []) (st := []) (k := (am_shp x1)) (ci := 9) rfl d_Club_refuseElement_17 rfl (am_shl q0).1 w_434 w_435 w_436 w_93 w_437 p_Shelf_isEmpty (Nat.le_of_ble_eq_true rfl) (Nat.le_of_ble_eq_true rfl) rfl k
theorem b_Club_refuseElement_20 {d : Nat} {x1 : Int32} {x2 : Int32} {a3 : Nat} {y0 : Bool} {h : am_H} {Q : am_Q} (sa3 : am_shf a3) (kt : (am_b y0) = 0 → am_W (X_Club_refuseElement d) 26 [some (.ref 0), some (.int x1), some (.int x2), some (.ref a3)] [] h Q) (kf : ¬ (am_b y0) = 0 → am_W (X_Club_refuseElement d) 23 [some (.ref 0), some (.int x1), some (.int x2), some (.ref a3)] [] h Q) : am_W (X_Club_refuseElement d) 20 [some (.ref 0), some (.int x1), some (.int x2), some (.ref a3)] [.int (am_b y0)] h Q :=
  am_if_eq (tgt := 26) d_Club_refuseElement_20 (by decide) kt kf
theorem b_Club_refuseElement_23 {d : Nat} {x1 : Int32} {x2 : Int32} {a3 : Nat} {h : am_H} {Q : am_Q} (sa3 : am_shf a3) (q : Q (some (.int (-11))) h) : am_W (X_Club_refuseElement d) 23 [some (.ref 0), some (.int x1), some (.int x2), some (.ref a3)] [] h Q :=
  am_bipush (v := (-11)) d_Club_refuseElement_23 (by decide) <|
    am_iret rfl d_Club_refuseElement_25 q
theorem b_Club_refuseElement_26 {d : Nat} {x1 : Int32} {x2 : Int32} {a3 : Nat} {h : am_H} {Q : am_Q} (sa3 : am_shf a3) (k : m_Shelf_isRow d [.ref a3] h (fun r hh => am_W (X_Club_refuseElement (d + 1)) 30 [some (.ref 0), some (.int x1), some (.int x2), some (.ref a3)] (r.toList ++ []) hh Q)) : am_W (X_Club_refuseElement (d + 1)) 26 [some (.ref 0), some (.int x1), some (.int x2), some (.ref a3)] [] h Q :=
  am_aload_n d_Club_refuseElement_26 rfl (i := 3) rfl <|
    am_callV (vs := []) (st := []) (k := a3) (ci := 9) rfl d_Club_refuseElement_27 rfl sa3.1 w_1243 w_1244 w_1245 w_93 w_1246 p_Shelf_isRow (Nat.le_of_ble_eq_true rfl) (Nat.le_of_ble_eq_true rfl) rfl k
theorem b_Club_refuseElement_30 {d : Nat} {x1 : Int32} {x2 : Int32} {a3 : Nat} {y0 : Bool} {h : am_H} {Q : am_Q} (sa3 : am_shf a3) (kt : ¬ (am_b y0) = 0 → am_W (X_Club_refuseElement d) 36 [some (.ref 0), some (.int x1), some (.int x2), some (.ref a3)] [] h Q) (kf : (am_b y0) = 0 → am_W (X_Club_refuseElement d) 33 [some (.ref 0), some (.int x1), some (.int x2), some (.ref a3)] [] h Q) : am_W (X_Club_refuseElement d) 30 [some (.ref 0), some (.int x1), some (.int x2), some (.ref a3)] [.int (am_b y0)] h Q :=
  am_if_ne (tgt := 36) d_Club_refuseElement_30 (by decide) kt kf
theorem b_Club_refuseElement_33 {d : Nat} {x1 : Int32} {x2 : Int32} {a3 : Nat} {h : am_H} {Q : am_Q} (sa3 : am_shf a3) (q : Q (some (.int (-12))) h) : am_W (X_Club_refuseElement d) 33 [some (.ref 0), some (.int x1), some (.int x2), some (.ref a3)] [] h Q :=
  am_bipush (v := (-12)) d_Club_refuseElement_33 (by decide) <|
    am_iret rfl d_Club_refuseElement_35 q
theorem b_Club_refuseElement_36 {d : Nat} {x1 : Int32} {x2 : Int32} {a3 : Nat} {h : am_H} {Q : am_Q} (sa3 : am_shf a3) (k : m_Shelf_hasPlaces d [.ref a3, .int x2, .int 1] h (fun r hh => am_W (X_Club_refuseElement (d + 1)) 42 [some (.ref 0), some (.int x1), some (.int x2), some (.ref a3)] (r.toList ++ []) hh Q)) : am_W (X_Club_refuseElement (d + 1)) 36 [some (.ref 0), some (.int x1), some (.int x2), some (.ref a3)] [] h Q :=
  am_aload_n d_Club_refuseElement_36 rfl (i := 3) rfl <|
    am_iload_n d_Club_refuseElement_37 rfl (i := 2) rfl <|
    am_iconst (v := 1) d_Club_refuseElement_38 (by decide) <|
    am_callV (vs := [.int x2, .int 1]) (st := []) (k := a3) (ci := 9) rfl d_Club_refuseElement_39 rfl sa3.1 w_1247 w_448 w_449 w_93 w_450 p_Shelf_hasPlaces (Nat.le_of_ble_eq_true rfl) (Nat.le_of_ble_eq_true rfl) rfl k
theorem b_Club_refuseElement_42 {d : Nat} {x1 : Int32} {x2 : Int32} {a3 : Nat} {y0 : Bool} {h : am_H} {Q : am_Q} (sa3 : am_shf a3) (kt : (am_b y0) = 0 → am_W (X_Club_refuseElement d) 49 [some (.ref 0), some (.int x1), some (.int x2), some (.ref a3)] [] h Q) (kf : ¬ (am_b y0) = 0 → am_W (X_Club_refuseElement d) 45 [some (.ref 0), some (.int x1), some (.int x2), some (.ref a3)] [] h Q) : am_W (X_Club_refuseElement d) 42 [some (.ref 0), some (.int x1), some (.int x2), some (.ref a3)] [.int (am_b y0)] h Q :=
  am_if_eq (tgt := 49) d_Club_refuseElement_42 (by decide) kt kf
theorem b_Club_refuseElement_45 {d : Nat} {x1 : Int32} {x2 : Int32} {a3 : Nat} {h : am_H} {Q : am_Q} (sa3 : am_shf a3) (q : Q (some (.int 0)) h) : am_W (X_Club_refuseElement d) 45 [some (.ref 0), some (.int x1), some (.int x2), some (.ref a3)] [] h Q :=
  am_iconst (v := 0) d_Club_refuseElement_45 (by decide) <|
    am_goto (tgt := 51) d_Club_refuseElement_46 (by decide) <|
    am_iret rfl d_Club_refuseElement_51 q
theorem b_Club_refuseElement_49 {d : Nat} {x1 : Int32} {x2 : Int32} {a3 : Nat} {h : am_H} {Q : am_Q} (sa3 : am_shf a3) (q : Q (some (.int (-13))) h) : am_W (X_Club_refuseElement d) 49 [some (.ref 0), some (.int x1), some (.int x2), some (.ref a3)] [] h Q :=
  am_bipush (v := (-13)) d_Club_refuseElement_49 (by decide) <|
    am_iret rfl d_Club_refuseElement_51 q
theorem t_Club_refuseElement_49 {d : Nat} {x1 : Int32} {x2 : Int32} {a3 : Nat} {h : am_H} {Q : am_Q} {res : Int32} (sa3 : am_shf a3) (e : f_Club_refuseElement_49 h = some res) (q : Q (some (.int res)) h) : am_W (X_Club_refuseElement (d + 1)) 49 [some (.ref 0), some (.int x1), some (.int x2), some (.ref a3)] [] h Q :=
  b_Club_refuseElement_49 (d := (d + 1)) (sa3 := sa3) (q := (am_rIp (v := (-13)) e q))
theorem t_Club_refuseElement_45 {d : Nat} {x1 : Int32} {x2 : Int32} {a3 : Nat} {h : am_H} {Q : am_Q} {res : Int32} (sa3 : am_shf a3) (e : f_Club_refuseElement_45 h = some res) (q : Q (some (.int res)) h) : am_W (X_Club_refuseElement (d + 1)) 45 [some (.ref 0), some (.int x1), some (.int x2), some (.ref a3)] [] h Q :=
  b_Club_refuseElement_45 (d := (d + 1)) (sa3 := sa3) (q := (am_rIp (v := 0) e q))
theorem t_Club_refuseElement_42 {d : Nat} {x1 : Int32} {x2 : Int32} {a3 : Nat} {y0 : Bool} {h : am_H} {Q : am_Q} {res : Int32} (sa3 : am_shf a3) (e : f_Club_refuseElement_42 h y0 = some res) (q : Q (some (.int res)) h) : am_W (X_Club_refuseElement (d + 1)) 42 [some (.ref 0), some (.int x1), some (.int x2), some (.ref a3)] [.int (am_b y0)] h Q :=
  b_Club_refuseElement_42 (d := (d + 1)) (sa3 := sa3) (kt := fun c => (t_Club_refuseElement_49 sa3 (am_iff e (am_bz c)) q)) (kf := fun c => (t_Club_refuseElement_45 sa3 (am_ift e (am_bn c)) q))
theorem t_Club_refuseElement_36 {d : Nat} {x1 : Int32} {x2 : Int32} {a3 : Nat} {h : am_H} {Q : am_Q} {res : Int32} (sa3 : am_shf a3) (e : f_Club_refuseElement_36 h x2 a3 = some res) (q : Q (some (.int res)) h) : am_W (X_Club_refuseElement (d + 1)) 36 [some (.ref 0), some (.int x1), some (.int x2), some (.ref a3)] [] h Q :=
  b_Club_refuseElement_36 (d := d) (sa3 := sa3) (k := c_Shelf_hasPlaces (d := d) sa3 rfl (t_Club_refuseElement_42 sa3 e q))
theorem t_Club_refuseElement_33 {d : Nat} {x1 : Int32} {x2 : Int32} {a3 : Nat} {h : am_H} {Q : am_Q} {res : Int32} (sa3 : am_shf a3) (e : f_Club_refuseElement_33 h = some res) (q : Q (some (.int res)) h) : am_W (X_Club_refuseElement (d + 1)) 33 [some (.ref 0), some (.int x1), some (.int x2), some (.ref a3)] [] h Q :=
  b_Club_refuseElement_33 (d := (d + 1)) (sa3 := sa3) (q := (am_rIp (v := (-12)) e q))
theorem t_Club_refuseElement_30 {d : Nat} {x1 : Int32} {x2 : Int32} {a3 : Nat} {y0 : Bool} {h : am_H} {Q : am_Q} {res : Int32} (sa3 : am_shf a3) (e : f_Club_refuseElement_30 h x2 a3 y0 = some res) (q : Q (some (.int res)) h) : am_W (X_Club_refuseElement (d + 1)) 30 [some (.ref 0), some (.int x1), some (.int x2), some (.ref a3)] [.int (am_b y0)] h Q :=
  b_Club_refuseElement_30 (d := (d + 1)) (sa3 := sa3) (kt := fun c => (t_Club_refuseElement_36 sa3 (am_ift e (am_bn c)) q)) (kf := fun c => (t_Club_refuseElement_33 sa3 (am_iff e (am_bz c)) q))
theorem t_Club_refuseElement_26 {d : Nat} {x1 : Int32} {x2 : Int32} {a3 : Nat} {h : am_H} {Q : am_Q} {res : Int32} (sa3 : am_shf a3) (e : f_Club_refuseElement_26 h x2 a3 = some res) (q : Q (some (.int res)) h) : am_W (X_Club_refuseElement (d + 1)) 26 [some (.ref 0), some (.int x1), some (.int x2), some (.ref a3)] [] h Q :=
  b_Club_refuseElement_26 (d := d) (sa3 := sa3) (k := c_Shelf_isRow (d := d) sa3 rfl (t_Club_refuseElement_30 sa3 e q))
theorem t_Club_refuseElement_23 {d : Nat} {x1 : Int32} {x2 : Int32} {a3 : Nat} {h : am_H} {Q : am_Q} {res : Int32} (sa3 : am_shf a3) (e : f_Club_refuseElement_23 h = some res) (q : Q (some (.int res)) h) : am_W (X_Club_refuseElement (d + 1)) 23 [some (.ref 0), some (.int x1), some (.int x2), some (.ref a3)] [] h Q :=
  b_Club_refuseElement_23 (d := (d + 1)) (sa3 := sa3) (q := (am_rIp (v := (-11)) e q))
theorem t_Club_refuseElement_20 {d : Nat} {x1 : Int32} {x2 : Int32} {a3 : Nat} {y0 : Bool} {h : am_H} {Q : am_Q} {res : Int32} (sa3 : am_shf a3) (e : f_Club_refuseElement_20 h x2 a3 y0 = some res) (q : Q (some (.int res)) h) : am_W (X_Club_refuseElement (d + 1)) 20 [some (.ref 0), some (.int x1), some (.int x2), some (.ref a3)] [.int (am_b y0)] h Q :=
  b_Club_refuseElement_20 (d := (d + 1)) (sa3 := sa3) (kt := fun c => (t_Club_refuseElement_26 sa3 (am_iff e (am_bz c)) q)) (kf := fun c => (t_Club_refuseElement_23 sa3 (am_ift e (am_bn c)) q))
theorem t_Club_refuseElement_9 {d : Nat} {x1 : Int32} {x2 : Int32} {h : am_H} {Q : am_Q} {res : Int32} (e : f_Club_refuseElement_9 h x1 x2 = some res) (q : Q (some (.int res)) h) : am_W (X_Club_refuseElement (d + 1)) 9 [some (.ref 0), some (.int x1), some (.int x2), none] [] h Q :=
  b_Club_refuseElement_9 (d := d) (q0 := (am_okv (am_gd e))) (k := c_Shelf_isEmpty (d := d) (am_shl (am_okv (am_gd e))) rfl (t_Club_refuseElement_20 (am_shl (am_okv (am_gd e))) (am_ga e) q))
theorem t_Club_refuseElement_7 {d : Nat} {x1 : Int32} {x2 : Int32} {h : am_H} {Q : am_Q} {res : Int32} (e : f_Club_refuseElement_7 h = some res) (q : Q (some (.int res)) h) : am_W (X_Club_refuseElement (d + 1)) 7 [some (.ref 0), some (.int x1), some (.int x2), none] [] h Q :=
  b_Club_refuseElement_7 (d := (d + 1)) (q := (am_rIp (v := (-1)) e q))
theorem t_Club_refuseElement_4 {d : Nat} {x1 : Int32} {x2 : Int32} {y0 : Bool} {h : am_H} {Q : am_Q} {res : Int32} (e : f_Club_refuseElement_4 h x1 x2 y0 = some res) (q : Q (some (.int res)) h) : am_W (X_Club_refuseElement (d + 1)) 4 [some (.ref 0), some (.int x1), some (.int x2), none] [.int (am_b y0)] h Q :=
  b_Club_refuseElement_4 (d := (d + 1)) (kt := fun c => (t_Club_refuseElement_9 (am_ift e (am_bn c)) q)) (kf := fun c => (t_Club_refuseElement_7 (am_iff e (am_bz c)) q))
theorem t_Club_refuseElement_0 {d : Nat} {x1 : Int32} {x2 : Int32} {h : am_H} {Q : am_Q} {res : Int32} (e : f_Club_refuseElement h x1 x2 = some res) (q : Q (some (.int res)) h) : am_W (X_Club_refuseElement (d + 1)) 0 [some (.ref 0), some (.int x1), some (.int x2), none] [] h Q :=
  b_Club_refuseElement_0 (d := d) (k := c_Club_isShelf (d := d) rfl (t_Club_refuseElement_4 e q))
theorem c_Club_refuseElement {d : Nat} {x1 : Int32} {x2 : Int32} {h : am_H} {Q : am_Q} {res : Int32} (e : f_Club_refuseElement h x1 x2 = some res) (q : Q (some (.int res)) h) : m_Club_refuseElement (d + 1) [.ref 0, .int x1, .int x2] h Q :=
  e_Club_refuseElement (t_Club_refuseElement_0 e q)
theorem d_Shelf_lowestBits_0 : decode prog_9_method_15_code 0 = .ok (.aload_n 0, 1) := by decide +kernel
theorem d_Shelf_lowestBits_1 : decode prog_9_method_15_code 1 = .ok (.getfield 17, 3) := by decide +kernel
theorem d_Shelf_lowestBits_4 : decode prog_9_method_15_code 4 = .ok (.tableswitch 62 0 4 #[36, 41, 46, 62, 50], 36) := by decide +kernel
theorem d_Shelf_lowestBits_40 : decode prog_9_method_15_code 40 = .ok (.lload_n 1, 1) := by decide +kernel
theorem d_Shelf_lowestBits_41 : decode prog_9_method_15_code 41 = .ok (.l2i, 1) := by decide +kernel
theorem d_Shelf_lowestBits_42 : decode prog_9_method_15_code 42 = .ok (.i2b, 1) := by decide +kernel
theorem d_Shelf_lowestBits_43 : decode prog_9_method_15_code 43 = .ok (.i2l, 1) := by decide +kernel
theorem d_Shelf_lowestBits_44 : decode prog_9_method_15_code 44 = .ok (.lreturn, 1) := by decide +kernel
theorem d_Shelf_lowestBits_45 : decode prog_9_method_15_code 45 = .ok (.lload_n 1, 1) := by decide +kernel
theorem d_Shelf_lowestBits_46 : decode prog_9_method_15_code 46 = .ok (.l2i, 1) := by decide +kernel
theorem d_Shelf_lowestBits_47 : decode prog_9_method_15_code 47 = .ok (.i2s, 1) := by decide +kernel
theorem d_Shelf_lowestBits_48 : decode prog_9_method_15_code 48 = .ok (.i2l, 1) := by decide +kernel
theorem d_Shelf_lowestBits_49 : decode prog_9_method_15_code 49 = .ok (.lreturn, 1) := by decide +kernel
theorem d_Shelf_lowestBits_50 : decode prog_9_method_15_code 50 = .ok (.lload_n 1, 1) := by decide +kernel
theorem d_Shelf_lowestBits_51 : decode prog_9_method_15_code 51 = .ok (.l2i, 1) := by decide +kernel
theorem d_Shelf_lowestBits_52 : decode prog_9_method_15_code 52 = .ok (.i2l, 1) := by decide +kernel
theorem d_Shelf_lowestBits_53 : decode prog_9_method_15_code 53 = .ok (.lreturn, 1) := by decide +kernel
theorem d_Shelf_lowestBits_54 : decode prog_9_method_15_code 54 = .ok (.lload_n 1, 1) := by decide +kernel
theorem d_Shelf_lowestBits_55 : decode prog_9_method_15_code 55 = .ok (.lconst 0, 1) := by decide +kernel
theorem d_Shelf_lowestBits_56 : decode prog_9_method_15_code 56 = .ok (.lcmp, 1) := by decide +kernel
theorem d_Shelf_lowestBits_57 : decode prog_9_method_15_code 57 = .ok (.ifCond .eq 7, 3) := by decide +kernel
theorem d_Shelf_lowestBits_60 : decode prog_9_method_15_code 60 = .ok (.lconst 1, 1) := by decide +kernel
theorem d_Shelf_lowestBits_61 : decode prog_9_method_15_code 61 = .ok (.goto 4, 3) := by decide +kernel
theorem d_Shelf_lowestBits_64 : decode prog_9_method_15_code 64 = .ok (.lconst 0, 1) := by decide +kernel
theorem d_Shelf_lowestBits_65 : decode prog_9_method_15_code 65 = .ok (.lreturn, 1) := by decide +kernel
theorem d_Shelf_lowestBits_66 : decode prog_9_method_15_code 66 = .ok (.lload_n 1, 1) := by decide +kernel
theorem d_Shelf_lowestBits_67 : decode prog_9_method_15_code 67 = .ok (.lreturn, 1) := by decide +kernel
theorem b_Shelf_lowestBits_0 {d : Nat} {a0 : Nat} {x1 : Int64} {h : am_H} {Q : am_Q} (sa0 : am_shf a0) (k0 : (h.1 a0 2) = 0 → am_W (X_Shelf_lowestBits d) 40 [some (.ref a0), some (.long x1), none] [] h Q) (k1 : (h.1 a0 2) = 1 → am_W (X_Shelf_lowestBits d) 45 [some (.ref a0), some (.long x1), none] [] h Q) (k2 : (h.1 a0 2) = 2 → am_W (X_Shelf_lowestBits d) 50 [some (.ref a0), some (.long x1), none] [] h Q) (k3 : (h.1 a0 2) = 3 → am_W (X_Shelf_lowestBits d) 66 [some (.ref a0), some (.long x1), none] [] h Q) (k4 : (h.1 a0 2) = 4 → am_W (X_Shelf_lowestBits d) 54 [some (.ref a0), some (.long x1), none] [] h Q) (kd : ¬ (h.1 a0 2) = 0 → ¬ (h.1 a0 2) = 1 → ¬ (h.1 a0 2) = 2 → ¬ (h.1 a0 2) = 3 → ¬ (h.1 a0 2) = 4 → am_W (X_Shelf_lowestBits d) 66 [some (.ref a0), some (.long x1), none] [] h Q) : am_W (X_Shelf_lowestBits d) 0 [some (.ref a0), some (.long x1), none] [] h Q := by
  refine am_aload_n d_Shelf_lowestBits_0 rfl (i := 0) rfl ?_
  refine am_getI (ci := 9) (i := 2) rfl sa0.1 rfl (Nat.le_of_ble_eq_true rfl) w_351 d_Shelf_lowestBits_1 ?_
  by_cases e0 : ((h.1 a0 2) : Int32).toInt < 0 ∨ 4 < ((h.1 a0 2) : Int32).toInt
  · exact am_tableOut (tgt := 66) d_Shelf_lowestBits_4 e0 (by decide) (kd (fun e => by rw [e] at e0; revert e0; decide) (fun e => by rw [e] at e0; revert e0; decide) (fun e => by rw [e] at e0; revert e0; decide) (fun e => by rw [e] at e0; revert e0; decide) (fun e => by rw [e] at e0; revert e0; decide))
  by_cases e1 : (h.1 a0 2) = 0
  · exact am_tableIn (tgt := 40) (off := 36) d_Shelf_lowestBits_4 (fun e => e0 (Or.inl e)) (fun e => e0 (Or.inr e)) (by rw [e1]; decide +kernel) (by decide) (k0 e1)
  by_cases e2 : (h.1 a0 2) = 1
  · exact am_tableIn (tgt := 45) (off := 41) d_Shelf_lowestBits_4 (fun e => e0 (Or.inl e)) (fun e => e0 (Or.inr e)) (by rw [e2]; decide +kernel) (by decide) (k1 e2)
  by_cases e3 : (h.1 a0 2) = 2
  · exact am_tableIn (tgt := 50) (off := 46) d_Shelf_lowestBits_4 (fun e => e0 (Or.inl e)) (fun e => e0 (Or.inr e)) (by rw [e3]; decide +kernel) (by decide) (k2 e3)
  by_cases e4 : (h.1 a0 2) = 3
  · exact am_tableIn (tgt := 66) (off := 62) d_Shelf_lowestBits_4 (fun e => e0 (Or.inl e)) (fun e => e0 (Or.inr e)) (by rw [e4]; decide +kernel) (by decide) (k3 e4)
  by_cases e5 : (h.1 a0 2) = 4
  · exact am_tableIn (tgt := 54) (off := 50) d_Shelf_lowestBits_4 (fun e => e0 (Or.inl e)) (fun e => e0 (Or.inr e)) (by rw [e5]; decide +kernel) (by decide) (k4 e5)
  exfalso
  simp only [← Int32.toInt_inj] at e1 e2 e3 e4 e5
  simp only [Int32.reduceToInt] at e1 e2 e3 e4 e5
  omega
theorem b_Shelf_lowestBits_40 {d : Nat} {a0 : Nat} {x1 : Int64} {h : am_H} {Q : am_Q} (sa0 : am_shf a0) (q : Q (some (.long x1.toInt32.toInt8.toInt32.toInt64)) h) : am_W (X_Shelf_lowestBits d) 40 [some (.ref a0), some (.long x1), none] [] h Q :=
  am_lload_n d_Shelf_lowestBits_40 rfl (i := 1) rfl <|
    am_l2i d_Shelf_lowestBits_41 <|
    am_i2b d_Shelf_lowestBits_42 <|
    am_i2l d_Shelf_lowestBits_43 <|
    am_lret rfl d_Shelf_lowestBits_44 q
theorem b_Shelf_lowestBits_45 {d : Nat} {a0 : Nat} {x1 : Int64} {h : am_H} {Q : am_Q} (sa0 : am_shf a0) (q : Q (some (.long x1.toInt32.toInt16.toInt32.toInt64)) h) : am_W (X_Shelf_lowestBits d) 45 [some (.ref a0), some (.long x1), none] [] h Q :=
  am_lload_n d_Shelf_lowestBits_45 rfl (i := 1) rfl <|
    am_l2i d_Shelf_lowestBits_46 <|
    am_i2s d_Shelf_lowestBits_47 <|
    am_i2l d_Shelf_lowestBits_48 <|
    am_lret rfl d_Shelf_lowestBits_49 q
theorem b_Shelf_lowestBits_50 {d : Nat} {a0 : Nat} {x1 : Int64} {h : am_H} {Q : am_Q} (sa0 : am_shf a0) (q : Q (some (.long x1.toInt32.toInt64)) h) : am_W (X_Shelf_lowestBits d) 50 [some (.ref a0), some (.long x1), none] [] h Q :=
  am_lload_n d_Shelf_lowestBits_50 rfl (i := 1) rfl <|
    am_l2i d_Shelf_lowestBits_51 <|
    am_i2l d_Shelf_lowestBits_52 <|
    am_lret rfl d_Shelf_lowestBits_53 q
theorem b_Shelf_lowestBits_54 {d : Nat} {a0 : Nat} {x1 : Int64} {h : am_H} {Q : am_Q} (sa0 : am_shf a0) (kt : x1 = 0 → am_W (X_Shelf_lowestBits d) 64 [some (.ref a0), some (.long x1), none] [] h Q) (kf : ¬ x1 = 0 → am_W (X_Shelf_lowestBits d) 60 [some (.ref a0), some (.long x1), none] [] h Q) : am_W (X_Shelf_lowestBits d) 54 [some (.ref a0), some (.long x1), none] [] h Q :=
  am_lload_n d_Shelf_lowestBits_54 rfl (i := 1) rfl <|
    am_lconst (v := 0) d_Shelf_lowestBits_55 (by decide) <|
    am_lc_if_eq (tgt := 64) d_Shelf_lowestBits_56 d_Shelf_lowestBits_57 (by decide) kt kf
theorem b_Shelf_lowestBits_60 {d : Nat} {a0 : Nat} {x1 : Int64} {h : am_H} {Q : am_Q} (sa0 : am_shf a0) (q : Q (some (.long 1)) h) : am_W (X_Shelf_lowestBits d) 60 [some (.ref a0), some (.long x1), none] [] h Q :=
  am_lconst (v := 1) d_Shelf_lowestBits_60 (by decide) <|
    am_goto (tgt := 65) d_Shelf_lowestBits_61 (by decide) <|
    am_lret rfl d_Shelf_lowestBits_65 q
theorem b_Shelf_lowestBits_64 {d : Nat} {a0 : Nat} {x1 : Int64} {h : am_H} {Q : am_Q} (sa0 : am_shf a0) (q : Q (some (.long 0)) h) : am_W (X_Shelf_lowestBits d) 64 [some (.ref a0), some (.long x1), none] [] h Q :=
  am_lconst (v := 0) d_Shelf_lowestBits_64 (by decide) <|
    am_lret rfl d_Shelf_lowestBits_65 q
theorem b_Shelf_lowestBits_66 {d : Nat} {a0 : Nat} {x1 : Int64} {h : am_H} {Q : am_Q} (sa0 : am_shf a0) (q : Q (some (.long x1)) h) : am_W (X_Shelf_lowestBits d) 66 [some (.ref a0), some (.long x1), none] [] h Q :=
  am_lload_n d_Shelf_lowestBits_66 rfl (i := 1) rfl <|
    am_lret rfl d_Shelf_lowestBits_67 q
theorem t_Shelf_lowestBits_40 {d : Nat} {a0 : Nat} {x1 : Int64} {h : am_H} {Q : am_Q} {res : Int64} (sa0 : am_shf a0) (e : f_Shelf_lowestBits_40 h x1 = res) (q : Q (some (.long res)) h) : am_W (X_Shelf_lowestBits d) 40 [some (.ref a0), some (.long x1), none] [] h Q :=
  b_Shelf_lowestBits_40 (d := d) (sa0 := sa0) (q := (am_rJt (v := x1.toInt32.toInt8.toInt32.toInt64) e q))
theorem t_Shelf_lowestBits_45 {d : Nat} {a0 : Nat} {x1 : Int64} {h : am_H} {Q : am_Q} {res : Int64} (sa0 : am_shf a0) (e : f_Shelf_lowestBits_45 h x1 = res) (q : Q (some (.long res)) h) : am_W (X_Shelf_lowestBits d) 45 [some (.ref a0), some (.long x1), none] [] h Q :=
  b_Shelf_lowestBits_45 (d := d) (sa0 := sa0) (q := (am_rJt (v := x1.toInt32.toInt16.toInt32.toInt64) e q))
theorem t_Shelf_lowestBits_50 {d : Nat} {a0 : Nat} {x1 : Int64} {h : am_H} {Q : am_Q} {res : Int64} (sa0 : am_shf a0) (e : f_Shelf_lowestBits_50 h x1 = res) (q : Q (some (.long res)) h) : am_W (X_Shelf_lowestBits d) 50 [some (.ref a0), some (.long x1), none] [] h Q :=
  b_Shelf_lowestBits_50 (d := d) (sa0 := sa0) (q := (am_rJt (v := x1.toInt32.toInt64) e q))
theorem t_Shelf_lowestBits_66 {d : Nat} {a0 : Nat} {x1 : Int64} {h : am_H} {Q : am_Q} {res : Int64} (sa0 : am_shf a0) (e : f_Shelf_lowestBits_66 h x1 = res) (q : Q (some (.long res)) h) : am_W (X_Shelf_lowestBits d) 66 [some (.ref a0), some (.long x1), none] [] h Q :=
  b_Shelf_lowestBits_66 (d := d) (sa0 := sa0) (q := (am_rJt (v := x1) e q))
theorem t_Shelf_lowestBits_64 {d : Nat} {a0 : Nat} {x1 : Int64} {h : am_H} {Q : am_Q} {res : Int64} (sa0 : am_shf a0) (e : f_Shelf_lowestBits_64 h = res) (q : Q (some (.long res)) h) : am_W (X_Shelf_lowestBits d) 64 [some (.ref a0), some (.long x1), none] [] h Q :=
  b_Shelf_lowestBits_64 (d := d) (sa0 := sa0) (q := (am_rJt (v := 0) e q))
theorem t_Shelf_lowestBits_60 {d : Nat} {a0 : Nat} {x1 : Int64} {h : am_H} {Q : am_Q} {res : Int64} (sa0 : am_shf a0) (e : f_Shelf_lowestBits_60 h = res) (q : Q (some (.long res)) h) : am_W (X_Shelf_lowestBits d) 60 [some (.ref a0), some (.long x1), none] [] h Q :=
  b_Shelf_lowestBits_60 (d := d) (sa0 := sa0) (q := (am_rJt (v := 1) e q))
theorem t_Shelf_lowestBits_54 {d : Nat} {a0 : Nat} {x1 : Int64} {h : am_H} {Q : am_Q} {res : Int64} (sa0 : am_shf a0) (e : f_Shelf_lowestBits_54 h x1 = res) (q : Q (some (.long res)) h) : am_W (X_Shelf_lowestBits d) 54 [some (.ref a0), some (.long x1), none] [] h Q :=
  b_Shelf_lowestBits_54 (d := d) (sa0 := sa0) (kt := fun c => (t_Shelf_lowestBits_64 sa0 (am_ift e c) q)) (kf := fun c => (t_Shelf_lowestBits_60 sa0 (am_ife e c) q))
theorem t_Shelf_lowestBits_0 {d : Nat} {a0 : Nat} {x1 : Int64} {h : am_H} {Q : am_Q} {res : Int64} (sa0 : am_shf a0) (e : f_Shelf_lowestBits h a0 x1 = res) (q : Q (some (.long res)) h) : am_W (X_Shelf_lowestBits d) 0 [some (.ref a0), some (.long x1), none] [] h Q :=
  b_Shelf_lowestBits_0 (d := d) (sa0 := sa0) (k0 := fun c => (t_Shelf_lowestBits_40 sa0 (am_ift e c) q)) (k1 := fun c => (t_Shelf_lowestBits_45 sa0 (am_ift (am_ife e (fun z => absurd (c.symm.trans z) (by decide))) c) q)) (k2 := fun c => (t_Shelf_lowestBits_50 sa0 (am_ift (am_ife (am_ife e (fun z => absurd (c.symm.trans z) (by decide))) (fun z => absurd (c.symm.trans z) (by decide))) c) q)) (k3 := fun c => (t_Shelf_lowestBits_66 sa0 (am_ift (am_ife (am_ife (am_ife e (fun z => absurd (c.symm.trans z) (by decide))) (fun z => absurd (c.symm.trans z) (by decide))) (fun z => absurd (c.symm.trans z) (by decide))) c) q)) (k4 := fun c => (t_Shelf_lowestBits_54 sa0 (am_ift (am_ife (am_ife (am_ife (am_ife e (fun z => absurd (c.symm.trans z) (by decide))) (fun z => absurd (c.symm.trans z) (by decide))) (fun z => absurd (c.symm.trans z) (by decide))) (fun z => absurd (c.symm.trans z) (by decide))) c) q)) (kd := fun c0 c1 c2 c3 c4 => (t_Shelf_lowestBits_66 sa0 (am_ife (am_ife (am_ife (am_ife (am_ife e c0) c1) c2) c3) c4) q))
theorem c_Shelf_lowestBits {d : Nat} {a0 : Nat} {x1 : Int64} {h : am_H} {Q : am_Q} {res : Int64} (sa0 : am_shf a0) (e : f_Shelf_lowestBits h a0 x1 = res) (q : Q (some (.long res)) h) : m_Shelf_lowestBits d [.ref a0, .long x1] h Q :=
  e_Shelf_lowestBits (t_Shelf_lowestBits_0 sa0 e q)
