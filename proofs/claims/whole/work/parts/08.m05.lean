theorem d_Reck_gainBy_0 : decode prog_7_method_22_code 0 = .ok (.aload_n 0, 1) := by decide +kernel
theorem d_Reck_gainBy_1 : decode prog_7_method_22_code 1 = .ok (.getfield 57, 3) := by decide +kernel
theorem d_Reck_gainBy_4 : decode prog_7_method_22_code 4 = .ok (.iload_n 3, 1) := by decide +kernel
theorem d_Reck_gainBy_5 : decode prog_7_method_22_code 5 = .ok (.iload 4, 2) := by decide +kernel
theorem d_Reck_gainBy_7 : decode prog_7_method_22_code 7 = .ok (.invokevirtual 190, 3) := by decide +kernel
theorem d_Reck_gainBy_10 : decode prog_7_method_22_code 10 = .ok (.istore 6, 2) := by decide +kernel
theorem d_Reck_gainBy_12 : decode prog_7_method_22_code 12 = .ok (.aload_n 0, 1) := by decide +kernel
theorem d_Reck_gainBy_13 : decode prog_7_method_22_code 13 = .ok (.getfield 57, 3) := by decide +kernel
theorem d_Reck_gainBy_16 : decode prog_7_method_22_code 16 = .ok (.iload 4, 2) := by decide +kernel
theorem d_Reck_gainBy_18 : decode prog_7_method_22_code 18 = .ok (.iload 6, 2) := by decide +kernel
theorem d_Reck_gainBy_20 : decode prog_7_method_22_code 20 = .ok (.iload 5, 2) := by decide +kernel
theorem d_Reck_gainBy_22 : decode prog_7_method_22_code 22 = .ok (.iadd, 1) := by decide +kernel
theorem d_Reck_gainBy_23 : decode prog_7_method_22_code 23 = .ok (.invokevirtual 193, 3) := by decide +kernel
theorem d_Reck_gainBy_26 : decode prog_7_method_22_code 26 = .ok (.ifCond .ne 5, 3) := by decide +kernel
theorem d_Reck_gainBy_29 : decode prog_7_method_22_code 29 = .ok (.lconst 0, 1) := by decide +kernel
theorem d_Reck_gainBy_30 : decode prog_7_method_22_code 30 = .ok (.lreturn, 1) := by decide +kernel
theorem d_Reck_gainBy_31 : decode prog_7_method_22_code 31 = .ok (.aload_n 0, 1) := by decide +kernel
theorem d_Reck_gainBy_32 : decode prog_7_method_22_code 32 = .ok (.getfield 57, 3) := by decide +kernel
theorem d_Reck_gainBy_35 : decode prog_7_method_22_code 35 = .ok (.iload_n 3, 1) := by decide +kernel
theorem d_Reck_gainBy_36 : decode prog_7_method_22_code 36 = .ok (.iload 4, 2) := by decide +kernel
theorem d_Reck_gainBy_38 : decode prog_7_method_22_code 38 = .ok (.iload 6, 2) := by decide +kernel
theorem d_Reck_gainBy_40 : decode prog_7_method_22_code 40 = .ok (.iload 5, 2) := by decide +kernel
theorem d_Reck_gainBy_42 : decode prog_7_method_22_code 42 = .ok (.iadd, 1) := by decide +kernel
theorem d_Reck_gainBy_43 : decode prog_7_method_22_code 43 = .ok (.invokevirtual 197, 3) := by decide +kernel
theorem d_Reck_gainBy_46 : decode prog_7_method_22_code 46 = .ok (.aload_n 0, 1) := by decide +kernel
theorem d_Reck_gainBy_47 : decode prog_7_method_22_code 47 = .ok (.invokevirtual 65, 3) := by decide +kernel
theorem d_Reck_gainBy_50 : decode prog_7_method_22_code 50 = .ok (.aload_n 0, 1) := by decide +kernel
theorem d_Reck_gainBy_51 : decode prog_7_method_22_code 51 = .ok (.iconst 0, 1) := by decide +kernel
theorem d_Reck_gainBy_52 : decode prog_7_method_22_code 52 = .ok (.iconst 3, 1) := by decide +kernel
theorem d_Reck_gainBy_53 : decode prog_7_method_22_code 53 = .ok (.iconst 0, 1) := by decide +kernel
theorem d_Reck_gainBy_54 : decode prog_7_method_22_code 54 = .ok (.invokevirtual 132, 3) := by decide +kernel
theorem d_Reck_gainBy_57 : decode prog_7_method_22_code 57 = .ok (.lstore 7, 2) := by decide +kernel
theorem d_Reck_gainBy_59 : decode prog_7_method_22_code 59 = .ok (.aload_n 0, 1) := by decide +kernel
theorem d_Reck_gainBy_60 : decode prog_7_method_22_code 60 = .ok (.getfield 57, 3) := by decide +kernel
theorem d_Reck_gainBy_63 : decode prog_7_method_22_code 63 = .ok (.iload_n 3, 1) := by decide +kernel
theorem d_Reck_gainBy_64 : decode prog_7_method_22_code 64 = .ok (.iload 4, 2) := by decide +kernel
theorem d_Reck_gainBy_66 : decode prog_7_method_22_code 66 = .ok (.iload 6, 2) := by decide +kernel
theorem d_Reck_gainBy_68 : decode prog_7_method_22_code 68 = .ok (.invokevirtual 197, 3) := by decide +kernel
theorem d_Reck_gainBy_71 : decode prog_7_method_22_code 71 = .ok (.aload_n 0, 1) := by decide +kernel
theorem d_Reck_gainBy_72 : decode prog_7_method_22_code 72 = .ok (.invokevirtual 65, 3) := by decide +kernel
theorem d_Reck_gainBy_75 : decode prog_7_method_22_code 75 = .ok (.lload_n 1, 1) := by decide +kernel
theorem d_Reck_gainBy_76 : decode prog_7_method_22_code 76 = .ok (.lload 7, 2) := by decide +kernel
theorem d_Reck_gainBy_78 : decode prog_7_method_22_code 78 = .ok (.lsub, 1) := by decide +kernel
theorem d_Reck_gainBy_79 : decode prog_7_method_22_code 79 = .ok (.lreturn, 1) := by decide +kernel
theorem b_Reck_gainBy_0 {d : Nat} {x1 : Int64} {x3 : Int32} {x4 : Int32} {x5 : Int32} {h : am_H} {Q : am_Q} (k : m_Hole_numberAt d [.ref 1, .int x3, .int x4] h (fun r hh => am_W (X_Reck_gainBy (d + 1)) 10 [some (.ref 12), some (.long x1), none, some (.int x3), some (.int x4), some (.int x5), none, none, none] (r.toList ++ []) hh Q)) : am_W (X_Reck_gainBy (d + 1)) 0 [some (.ref 12), some (.long x1), none, some (.int x3), some (.int x4), some (.int x5), none, none, none] [] h Q :=
  am_aload_n d_Reck_gainBy_0 rfl (i := 0) rfl <|
    am_getR (ci := 3) (i := 0) rfl rfl rfl (Nat.le_of_ble_eq_true rfl) w_194 d_Reck_gainBy_1 <|
    am_iload_n d_Reck_gainBy_4 rfl (i := 3) rfl <|
    am_iload d_Reck_gainBy_5 rfl <|
    am_callV (vs := [.int x3, .int x4]) (st := []) (k := 1) (ci := 1) rfl d_Reck_gainBy_7 rfl rfl w_920 w_481 w_482 w_84 w_483 p_Hole_numberAt (Nat.le_of_ble_eq_true rfl) (Nat.le_of_ble_eq_true rfl) rfl k
theorem b_Reck_gainBy_10 {d : Nat} {x1 : Int64} {x3 : Int32} {x4 : Int32} {x5 : Int32} {y0 : Int32} {h : am_H} {Q : am_Q} (k : m_Hole_allows d [.ref 1, .int x4, .int (y0 + x5)] h (fun r hh => am_W (X_Reck_gainBy (d + 1)) 26 [some (.ref 12), some (.long x1), none, some (.int x3), some (.int x4), some (.int x5), some (.int y0), none, none] (r.toList ++ []) hh Q)) : am_W (X_Reck_gainBy (d + 1)) 10 [some (.ref 12), some (.long x1), none, some (.int x3), some (.int x4), some (.int x5), none, none, none] [.int y0] h Q :=
  am_istore (ls' := [some (.ref 12), some (.long x1), none, some (.int x3), some (.int x4), some (.int x5), some (.int y0), none, none]) d_Reck_gainBy_10 (Nat.le_of_ble_eq_true rfl) rfl <|
    am_aload_n d_Reck_gainBy_12 rfl (i := 0) rfl <|
    am_getR (ci := 3) (i := 0) rfl rfl rfl (Nat.le_of_ble_eq_true rfl) w_194 d_Reck_gainBy_13 <|
    am_iload d_Reck_gainBy_16 rfl <|
    am_iload d_Reck_gainBy_18 rfl <|
    am_iload d_Reck_gainBy_20 rfl <|
    am_iadd d_Reck_gainBy_22 <|
    am_callV (vs := [.int x4, .int (y0 + x5)]) (st := []) (k := 1) (ci := 1) rfl d_Reck_gainBy_23 rfl rfl w_921 w_476 w_477 w_84 w_478 p_Hole_allows (Nat.le_of_ble_eq_true rfl) (Nat.le_of_ble_eq_true rfl) rfl k
theorem b_Reck_gainBy_26 {d : Nat} {x1 : Int64} {x3 : Int32} {x4 : Int32} {x5 : Int32} {x6 : Int32} {y0 : Bool} {h : am_H} {Q : am_Q} (kt : ¬ (am_b y0) = 0 → am_W (X_Reck_gainBy d) 31 [some (.ref 12), some (.long x1), none, some (.int x3), some (.int x4), some (.int x5), some (.int x6), none, none] [] h Q) (kf : (am_b y0) = 0 → am_W (X_Reck_gainBy d) 29 [some (.ref 12), some (.long x1), none, some (.int x3), some (.int x4), some (.int x5), some (.int x6), none, none] [] h Q) : am_W (X_Reck_gainBy d) 26 [some (.ref 12), some (.long x1), none, some (.int x3), some (.int x4), some (.int x5), some (.int x6), none, none] [.int (am_b y0)] h Q :=
  am_if_ne (tgt := 31) d_Reck_gainBy_26 (by decide) kt kf
theorem b_Reck_gainBy_29 {d : Nat} {x1 : Int64} {x3 : Int32} {x4 : Int32} {x5 : Int32} {x6 : Int32} {h : am_H} {Q : am_Q} (q : Q (some (.long 0)) h) : am_W (X_Reck_gainBy d) 29 [some (.ref 12), some (.long x1), none, some (.int x3), some (.int x4), some (.int x5), some (.int x6), none, none] [] h Q :=
  am_lconst (v := 0) d_Reck_gainBy_29 (by decide) <|
    am_lret rfl d_Reck_gainBy_30 q
theorem b_Reck_gainBy_31 {d : Nat} {x1 : Int64} {x3 : Int32} {x4 : Int32} {x5 : Int32} {x6 : Int32} {h : am_H} {Q : am_Q} (k : m_Hole_become d [.ref 1, .int x3, .int x4, .int (x6 + x5)] h (fun r hh => am_W (X_Reck_gainBy (d + 1)) 46 [some (.ref 12), some (.long x1), none, some (.int x3), some (.int x4), some (.int x5), some (.int x6), none, none] (r.toList ++ []) hh Q)) : am_W (X_Reck_gainBy (d + 1)) 31 [some (.ref 12), some (.long x1), none, some (.int x3), some (.int x4), some (.int x5), some (.int x6), none, none] [] h Q :=
  am_aload_n d_Reck_gainBy_31 rfl (i := 0) rfl <|
    am_getR (ci := 3) (i := 0) rfl rfl rfl (Nat.le_of_ble_eq_true rfl) w_194 d_Reck_gainBy_32 <|
    am_iload_n d_Reck_gainBy_35 rfl (i := 3) rfl <|
    am_iload d_Reck_gainBy_36 rfl <|
    am_iload d_Reck_gainBy_38 rfl <|
    am_iload d_Reck_gainBy_40 rfl <|
    am_iadd d_Reck_gainBy_42 <|
    am_callV (vs := [.int x3, .int x4, .int (x6 + x5)]) (st := []) (k := 1) (ci := 1) rfl d_Reck_gainBy_43 rfl rfl w_922 w_501 w_502 w_84 w_503 p_Hole_become (Nat.le_of_ble_eq_true rfl) (Nat.le_of_ble_eq_true rfl) rfl k
theorem b_Reck_gainBy_46 {d : Nat} {x1 : Int64} {x3 : Int32} {x4 : Int32} {x5 : Int32} {x6 : Int32} {h : am_H} {Q : am_Q} (k : m_Reck_forgetBest d [.ref 12] h (fun r hh => am_W (X_Reck_gainBy (d + 1)) 50 [some (.ref 12), some (.long x1), none, some (.int x3), some (.int x4), some (.int x5), some (.int x6), none, none] (r.toList ++ []) hh Q)) : am_W (X_Reck_gainBy (d + 1)) 46 [some (.ref 12), some (.long x1), none, some (.int x3), some (.int x4), some (.int x5), some (.int x6), none, none] [] h Q :=
  am_aload_n d_Reck_gainBy_46 rfl (i := 0) rfl <|
    am_callV (vs := []) (st := []) (k := 12) (ci := 3) rfl d_Reck_gainBy_47 rfl rfl w_412 w_414 w_0 w_87 w_415 p_Reck_forgetBest (Nat.le_of_ble_eq_true rfl) (Nat.le_of_ble_eq_true rfl) rfl k
theorem b_Reck_gainBy_50 {d : Nat} {x1 : Int64} {x3 : Int32} {x4 : Int32} {x5 : Int32} {x6 : Int32} {h : am_H} {Q : am_Q} (k : m_Reck_mean d [.ref 12, .int 0, .int 3, .int 0] h (fun r hh => am_W (X_Reck_gainBy (d + 1)) 57 [some (.ref 12), some (.long x1), none, some (.int x3), some (.int x4), some (.int x5), some (.int x6), none, none] (r.toList ++ []) hh Q)) : am_W (X_Reck_gainBy (d + 1)) 50 [some (.ref 12), some (.long x1), none, some (.int x3), some (.int x4), some (.int x5), some (.int x6), none, none] [] h Q :=
  am_aload_n d_Reck_gainBy_50 rfl (i := 0) rfl <|
    am_iconst (v := 0) d_Reck_gainBy_51 (by decide) <|
    am_iconst (v := 3) d_Reck_gainBy_52 (by decide) <|
    am_iconst (v := 0) d_Reck_gainBy_53 (by decide) <|
    am_callV (vs := [.int 0, .int 3, .int 0]) (st := []) (k := 12) (ci := 3) rfl d_Reck_gainBy_54 rfl rfl w_867 w_806 w_807 w_87 w_808 p_Reck_mean (Nat.le_of_ble_eq_true rfl) (Nat.le_of_ble_eq_true rfl) rfl k
theorem b_Reck_gainBy_57 {d : Nat} {x1 : Int64} {x3 : Int32} {x4 : Int32} {x5 : Int32} {x6 : Int32} {y0 : Int64} {h : am_H} {Q : am_Q} (k : m_Hole_become d [.ref 1, .int x3, .int x4, .int x6] h (fun r hh => am_W (X_Reck_gainBy (d + 1)) 71 [some (.ref 12), some (.long x1), none, some (.int x3), some (.int x4), some (.int x5), some (.int x6), some (.long y0), none] (r.toList ++ []) hh Q)) : am_W (X_Reck_gainBy (d + 1)) 57 [some (.ref 12), some (.long x1), none, some (.int x3), some (.int x4), some (.int x5), some (.int x6), none, none] [.long y0] h Q :=
  am_lstore (ls' := [some (.ref 12), some (.long x1), none, some (.int x3), some (.int x4), some (.int x5), some (.int x6), some (.long y0), none]) d_Reck_gainBy_57 (Nat.le_of_ble_eq_true rfl) rfl <|
    am_aload_n d_Reck_gainBy_59 rfl (i := 0) rfl <|
    am_getR (ci := 3) (i := 0) rfl rfl rfl (Nat.le_of_ble_eq_true rfl) w_194 d_Reck_gainBy_60 <|
    am_iload_n d_Reck_gainBy_63 rfl (i := 3) rfl <|
    am_iload d_Reck_gainBy_64 rfl <|
    am_iload d_Reck_gainBy_66 rfl <|
    am_callV (vs := [.int x3, .int x4, .int x6]) (st := []) (k := 1) (ci := 1) rfl d_Reck_gainBy_68 rfl rfl w_922 w_501 w_502 w_84 w_503 p_Hole_become (Nat.le_of_ble_eq_true rfl) (Nat.le_of_ble_eq_true rfl) rfl k
theorem b_Reck_gainBy_71 {d : Nat} {x1 : Int64} {x3 : Int32} {x4 : Int32} {x5 : Int32} {x6 : Int32} {x7 : Int64} {h : am_H} {Q : am_Q} (k : m_Reck_forgetBest d [.ref 12] h (fun r hh => am_W (X_Reck_gainBy (d + 1)) 75 [some (.ref 12), some (.long x1), none, some (.int x3), some (.int x4), some (.int x5), some (.int x6), some (.long x7), none] (r.toList ++ []) hh Q)) : am_W (X_Reck_gainBy (d + 1)) 71 [some (.ref 12), some (.long x1), none, some (.int x3), some (.int x4), some (.int x5), some (.int x6), some (.long x7), none] [] h Q :=
  am_aload_n d_Reck_gainBy_71 rfl (i := 0) rfl <|
    am_callV (vs := []) (st := []) (k := 12) (ci := 3) rfl d_Reck_gainBy_72 rfl rfl w_412 w_414 w_0 w_87 w_415 p_Reck_forgetBest (Nat.le_of_ble_eq_true rfl) (Nat.le_of_ble_eq_true rfl) rfl k
theorem b_Reck_gainBy_75 {d : Nat} {x1 : Int64} {x3 : Int32} {x4 : Int32} {x5 : Int32} {x6 : Int32} {x7 : Int64} {h : am_H} {Q : am_Q} (q : Q (some (.long (x1 - x7))) h) : am_W (X_Reck_gainBy d) 75 [some (.ref 12), some (.long x1), none, some (.int x3), some (.int x4), some (.int x5), some (.int x6), some (.long x7), none] [] h Q :=
  am_lload_n d_Reck_gainBy_75 rfl (i := 1) rfl <|
    am_lload d_Reck_gainBy_76 rfl <|
    am_lsub d_Reck_gainBy_78 <|
    am_lret rfl d_Reck_gainBy_79 q
theorem t_Reck_gainBy_75 {d : Nat} {x1 : Int64} {x3 : Int32} {x4 : Int32} {x5 : Int32} {x6 : Int32} {x7 : Int64} {h : am_H} {Q : am_Q} {res : Int64 × am_H} (e : f_Reck_gainBy_75 h x1 x7 = some res) (q : Q (some (.long res.1)) res.2) : am_W (X_Reck_gainBy (d + 5)) 75 [some (.ref 12), some (.long x1), none, some (.int x3), some (.int x4), some (.int x5), some (.int x6), some (.long x7), none] [] h Q :=
  b_Reck_gainBy_75 (d := (d + 5)) (q := (am_rJpi (v := (x1 - x7)) e q))
theorem t_Reck_gainBy_71 {d : Nat} {x1 : Int64} {x3 : Int32} {x4 : Int32} {x5 : Int32} {x6 : Int32} {x7 : Int64} {h : am_H} {Q : am_Q} {res : Int64 × am_H} (e : f_Reck_gainBy_71 h x1 x7 = some res) (q : Q (some (.long res.1)) res.2) : am_W (X_Reck_gainBy (d + 5)) 71 [some (.ref 12), some (.long x1), none, some (.int x3), some (.int x4), some (.int x5), some (.int x6), some (.long x7), none] [] h Q :=
  (am_bd e).elim fun p hp => b_Reck_gainBy_71 (d := (d + 4)) (k := c_Reck_forgetBest (d := d + 3) hp.1 (t_Reck_gainBy_75 hp.2 q))
theorem t_Reck_gainBy_57 {d : Nat} {x1 : Int64} {x3 : Int32} {x4 : Int32} {x5 : Int32} {x6 : Int32} {y0 : Int64} {h : am_H} {Q : am_Q} {res : Int64 × am_H} (e : f_Reck_gainBy_57 h x1 x3 x4 x6 y0 = some res) (q : Q (some (.long res.1)) res.2) : am_W (X_Reck_gainBy (d + 5)) 57 [some (.ref 12), some (.long x1), none, some (.int x3), some (.int x4), some (.int x5), some (.int x6), none, none] [.long y0] h Q :=
  (am_bd e).elim fun p hp => b_Reck_gainBy_57 (d := (d + 4)) (k := c_Hole_become (d := d + 2) hp.1 (t_Reck_gainBy_71 hp.2 q))
theorem t_Reck_gainBy_50 {d : Nat} {x1 : Int64} {x3 : Int32} {x4 : Int32} {x5 : Int32} {x6 : Int32} {h : am_H} {Q : am_Q} {res : Int64 × am_H} (e : f_Reck_gainBy_50 h x1 x3 x4 x6 = some res) (q : Q (some (.long res.1)) res.2) : am_W (X_Reck_gainBy (d + 5)) 50 [some (.ref 12), some (.long x1), none, some (.int x3), some (.int x4), some (.int x5), some (.int x6), none, none] [] h Q :=
  (am_bd e).elim fun p hp => b_Reck_gainBy_50 (d := (d + 4)) (k := c_Reck_mean (d := d) hp.1 (t_Reck_gainBy_57 hp.2 q))
theorem t_Reck_gainBy_46 {d : Nat} {x1 : Int64} {x3 : Int32} {x4 : Int32} {x5 : Int32} {x6 : Int32} {h : am_H} {Q : am_Q} {res : Int64 × am_H} (e : f_Reck_gainBy_46 h x1 x3 x4 x6 = some res) (q : Q (some (.long res.1)) res.2) : am_W (X_Reck_gainBy (d + 5)) 46 [some (.ref 12), some (.long x1), none, some (.int x3), some (.int x4), some (.int x5), some (.int x6), none, none] [] h Q :=
  (am_bd e).elim fun p hp => b_Reck_gainBy_46 (d := (d + 4)) (k := c_Reck_forgetBest (d := d + 3) hp.1 (t_Reck_gainBy_50 hp.2 q))
theorem t_Reck_gainBy_31 {d : Nat} {x1 : Int64} {x3 : Int32} {x4 : Int32} {x5 : Int32} {x6 : Int32} {h : am_H} {Q : am_Q} {res : Int64 × am_H} (e : f_Reck_gainBy_31 h x1 x3 x4 x5 x6 = some res) (q : Q (some (.long res.1)) res.2) : am_W (X_Reck_gainBy (d + 5)) 31 [some (.ref 12), some (.long x1), none, some (.int x3), some (.int x4), some (.int x5), some (.int x6), none, none] [] h Q :=
  (am_bd e).elim fun p hp => b_Reck_gainBy_31 (d := (d + 4)) (k := c_Hole_become (d := d + 2) hp.1 (t_Reck_gainBy_46 hp.2 q))
theorem t_Reck_gainBy_29 {d : Nat} {x1 : Int64} {x3 : Int32} {x4 : Int32} {x5 : Int32} {x6 : Int32} {h : am_H} {Q : am_Q} {res : Int64 × am_H} (e : f_Reck_gainBy_29 h = some res) (q : Q (some (.long res.1)) res.2) : am_W (X_Reck_gainBy (d + 5)) 29 [some (.ref 12), some (.long x1), none, some (.int x3), some (.int x4), some (.int x5), some (.int x6), none, none] [] h Q :=
  b_Reck_gainBy_29 (d := (d + 5)) (q := (am_rJpi (v := 0) e q))
theorem t_Reck_gainBy_26 {d : Nat} {x1 : Int64} {x3 : Int32} {x4 : Int32} {x5 : Int32} {x6 : Int32} {y0 : Bool} {h : am_H} {Q : am_Q} {res : Int64 × am_H} (e : f_Reck_gainBy_26 h x1 x3 x4 x5 x6 y0 = some res) (q : Q (some (.long res.1)) res.2) : am_W (X_Reck_gainBy (d + 5)) 26 [some (.ref 12), some (.long x1), none, some (.int x3), some (.int x4), some (.int x5), some (.int x6), none, none] [.int (am_b y0)] h Q :=
  b_Reck_gainBy_26 (d := (d + 5)) (kt := fun c => (t_Reck_gainBy_31 (am_ift e (am_bn c)) q)) (kf := fun c => (t_Reck_gainBy_29 (am_iff e (am_bz c)) q))
theorem t_Reck_gainBy_10 {d : Nat} {x1 : Int64} {x3 : Int32} {x4 : Int32} {x5 : Int32} {y0 : Int32} {h : am_H} {Q : am_Q} {res : Int64 × am_H} (e : f_Reck_gainBy_10 h x1 x3 x4 x5 y0 = some res) (q : Q (some (.long res.1)) res.2) : am_W (X_Reck_gainBy (d + 5)) 10 [some (.ref 12), some (.long x1), none, some (.int x3), some (.int x4), some (.int x5), none, none, none] [.int y0] h Q :=
  (am_bd e).elim fun p hp => b_Reck_gainBy_10 (d := (d + 4)) (k := c_Hole_allows (d := d + 3) hp.1 (t_Reck_gainBy_26 hp.2 q))
theorem t_Reck_gainBy_0 {d : Nat} {x1 : Int64} {x3 : Int32} {x4 : Int32} {x5 : Int32} {h : am_H} {Q : am_Q} {res : Int64 × am_H} (e : f_Reck_gainBy h x1 x3 x4 x5 = some res) (q : Q (some (.long res.1)) res.2) : am_W (X_Reck_gainBy (d + 5)) 0 [some (.ref 12), some (.long x1), none, some (.int x3), some (.int x4), some (.int x5), none, none, none] [] h Q :=
  (am_bd e).elim fun p hp => b_Reck_gainBy_0 (d := (d + 4)) (k := c_Hole_numberAt (d := d + 3) hp.1 (t_Reck_gainBy_10 hp.2 q))
theorem c_Reck_gainBy {d : Nat} {x1 : Int64} {x3 : Int32} {x4 : Int32} {x5 : Int32} {h : am_H} {Q : am_Q} {res : Int64 × am_H} (e : f_Reck_gainBy h x1 x3 x4 x5 = some res) (q : Q (some (.long res.1)) res.2) : m_Reck_gainBy (d + 5) [.ref 12, .long x1, .int x3, .int x4, .int x5] h Q :=
  e_Reck_gainBy (t_Reck_gainBy_0 e q)
theorem d_Reck_findPractice_0 : decode prog_7_method_21_code 0 = .ok (.aload_n 0, 1) := by decide +kernel
theorem d_Reck_findPractice_1 : decode prog_7_method_21_code 1 = .ok (.getfield 37, 3) := by decide +kernel
theorem d_Reck_findPractice_4 : decode prog_7_method_21_code 4 = .ok (.ifCond .eq 4, 3) := by decide +kernel
theorem d_Reck_findPractice_7 : decode prog_7_method_21_code 7 = .ok (.return_, 1) := by decide +kernel
theorem d_Reck_findPractice_8 : decode prog_7_method_21_code 8 = .ok (.aload_n 0, 1) := by decide +kernel
theorem d_Reck_findPractice_9 : decode prog_7_method_21_code 9 = .ok (.iconst 0, 1) := by decide +kernel
theorem d_Reck_findPractice_10 : decode prog_7_method_21_code 10 = .ok (.iconst 3, 1) := by decide +kernel
theorem d_Reck_findPractice_11 : decode prog_7_method_21_code 11 = .ok (.iconst 0, 1) := by decide +kernel
theorem d_Reck_findPractice_12 : decode prog_7_method_21_code 12 = .ok (.invokevirtual 132, 3) := by decide +kernel
theorem d_Reck_findPractice_15 : decode prog_7_method_21_code 15 = .ok (.lstore_n 1, 1) := by decide +kernel
theorem d_Reck_findPractice_16 : decode prog_7_method_21_code 16 = .ok (.iconst 0, 1) := by decide +kernel
theorem d_Reck_findPractice_17 : decode prog_7_method_21_code 17 = .ok (.istore_n 3, 1) := by decide +kernel
theorem d_Reck_findPractice_18 : decode prog_7_method_21_code 18 = .ok (.aload_n 0, 1) := by decide +kernel
theorem d_Reck_findPractice_19 : decode prog_7_method_21_code 19 = .ok (.lload_n 1, 1) := by decide +kernel
theorem d_Reck_findPractice_20 : decode prog_7_method_21_code 20 = .ok (.iconst 0, 1) := by decide +kernel
theorem d_Reck_findPractice_21 : decode prog_7_method_21_code 21 = .ok (.bipush 6, 2) := by decide +kernel
theorem d_Reck_findPractice_23 : decode prog_7_method_21_code 23 = .ok (.iconst 1, 1) := by decide +kernel
theorem d_Reck_findPractice_24 : decode prog_7_method_21_code 24 = .ok (.invokevirtual 186, 3) := by decide +kernel
theorem d_Reck_findPractice_27 : decode prog_7_method_21_code 27 = .ok (.lstore 4, 2) := by decide +kernel
theorem d_Reck_findPractice_29 : decode prog_7_method_21_code 29 = .ok (.iconst 0, 1) := by decide +kernel
theorem d_Reck_findPractice_30 : decode prog_7_method_21_code 30 = .ok (.istore 6, 2) := by decide +kernel
theorem d_Reck_findPractice_32 : decode prog_7_method_21_code 32 = .ok (.iload 6, 2) := by decide +kernel
theorem d_Reck_findPractice_34 : decode prog_7_method_21_code 34 = .ok (.aload_n 0, 1) := by decide +kernel
theorem d_Reck_findPractice_35 : decode prog_7_method_21_code 35 = .ok (.getfield 57, 3) := by decide +kernel
theorem d_Reck_findPractice_38 : decode prog_7_method_21_code 38 = .ok (.invokevirtual 84, 3) := by decide +kernel
theorem d_Reck_findPractice_41 : decode prog_7_method_21_code 41 = .ok (.if_icmp .ge 37, 3) := by decide +kernel
theorem d_Reck_findPractice_44 : decode prog_7_method_21_code 44 = .ok (.aload_n 0, 1) := by decide +kernel
theorem d_Reck_findPractice_45 : decode prog_7_method_21_code 45 = .ok (.lload_n 1, 1) := by decide +kernel
theorem d_Reck_findPractice_46 : decode prog_7_method_21_code 46 = .ok (.iload 6, 2) := by decide +kernel
theorem d_Reck_findPractice_48 : decode prog_7_method_21_code 48 = .ok (.iconst 2, 1) := by decide +kernel
theorem d_Reck_findPractice_49 : decode prog_7_method_21_code 49 = .ok (.iconst (-1), 1) := by decide +kernel
theorem d_Reck_findPractice_50 : decode prog_7_method_21_code 50 = .ok (.invokevirtual 186, 3) := by decide +kernel
theorem d_Reck_findPractice_53 : decode prog_7_method_21_code 53 = .ok (.lstore 7, 2) := by decide +kernel
theorem d_Reck_findPractice_55 : decode prog_7_method_21_code 55 = .ok (.lload 7, 2) := by decide +kernel
theorem d_Reck_findPractice_57 : decode prog_7_method_21_code 57 = .ok (.lload 4, 2) := by decide +kernel
theorem d_Reck_findPractice_59 : decode prog_7_method_21_code 59 = .ok (.lcmp, 1) := by decide +kernel
theorem d_Reck_findPractice_60 : decode prog_7_method_21_code 60 = .ok (.ifCond .le 12, 3) := by decide +kernel
theorem d_Reck_findPractice_63 : decode prog_7_method_21_code 63 = .ok (.lload 7, 2) := by decide +kernel
theorem d_Reck_findPractice_65 : decode prog_7_method_21_code 65 = .ok (.lstore 4, 2) := by decide +kernel
theorem d_Reck_findPractice_67 : decode prog_7_method_21_code 67 = .ok (.iload 6, 2) := by decide +kernel
theorem d_Reck_findPractice_69 : decode prog_7_method_21_code 69 = .ok (.iconst 1, 1) := by decide +kernel
theorem d_Reck_findPractice_70 : decode prog_7_method_21_code 70 = .ok (.iadd, 1) := by decide +kernel
theorem d_Reck_findPractice_71 : decode prog_7_method_21_code 71 = .ok (.istore_n 3, 1) := by decide +kernel
theorem d_Reck_findPractice_72 : decode prog_7_method_21_code 72 = .ok (.iinc 6 1, 3) := by decide +kernel
theorem d_Reck_findPractice_75 : decode prog_7_method_21_code 75 = .ok (.goto (-43), 3) := by decide +kernel
theorem d_Reck_findPractice_78 : decode prog_7_method_21_code 78 = .ok (.aload_n 0, 1) := by decide +kernel
theorem d_Reck_findPractice_79 : decode prog_7_method_21_code 79 = .ok (.iload_n 3, 1) := by decide +kernel
theorem d_Reck_findPractice_80 : decode prog_7_method_21_code 80 = .ok (.putfield 46, 3) := by decide +kernel
theorem d_Reck_findPractice_83 : decode prog_7_method_21_code 83 = .ok (.aload_n 0, 1) := by decide +kernel
theorem d_Reck_findPractice_84 : decode prog_7_method_21_code 84 = .ok (.lload 4, 2) := by decide +kernel
theorem d_Reck_findPractice_86 : decode prog_7_method_21_code 86 = .ok (.putfield 50, 3) := by decide +kernel
theorem d_Reck_findPractice_89 : decode prog_7_method_21_code 89 = .ok (.aload_n 0, 1) := by decide +kernel
theorem d_Reck_findPractice_90 : decode prog_7_method_21_code 90 = .ok (.iconst 1, 1) := by decide +kernel
theorem d_Reck_findPractice_91 : decode prog_7_method_21_code 91 = .ok (.putfield 37, 3) := by decide +kernel
theorem d_Reck_findPractice_94 : decode prog_7_method_21_code 94 = .ok (.return_, 1) := by decide +kernel
theorem b_Reck_findPractice_0 {d : Nat} {h : am_H} {Q : am_Q} (kt : (h.1 12 9) = 0 → am_W (X_Reck_findPractice d) 8 [some (.ref 12), none, none, none, none, none, none, none, none] [] h Q) (kf : ¬ (h.1 12 9) = 0 → am_W (X_Reck_findPractice d) 7 [some (.ref 12), none, none, none, none, none, none, none, none] [] h Q) : am_W (X_Reck_findPractice d) 0 [some (.ref 12), none, none, none, none, none, none, none, none] [] h Q :=
  am_aload_n d_Reck_findPractice_0 rfl (i := 0) rfl <|
    am_getI (ci := 3) (i := 9) rfl rfl rfl (Nat.le_of_ble_eq_true rfl) w_203 d_Reck_findPractice_1 <|
    am_if_eq (tgt := 8) d_Reck_findPractice_4 (by decide) kt kf
theorem b_Reck_findPractice_7 {d : Nat} {h : am_H} {Q : am_Q} (q : Q none h) : am_W (X_Reck_findPractice d) 7 [some (.ref 12), none, none, none, none, none, none, none, none] [] h Q :=
  am_vret rfl d_Reck_findPractice_7 q
theorem b_Reck_findPractice_8 {d : Nat} {h : am_H} {Q : am_Q} (k : m_Reck_mean d [.ref 12, .int 0, .int 3, .int 0] h (fun r hh => am_W (X_Reck_findPractice (d + 1)) 15 [some (.ref 12), none, none, none, none, none, none, none, none] (r.toList ++ []) hh Q)) : am_W (X_Reck_findPractice (d + 1)) 8 [some (.ref 12), none, none, none, none, none, none, none, none] [] h Q :=
  am_aload_n d_Reck_findPractice_8 rfl (i := 0) rfl <|
    am_iconst (v := 0) d_Reck_findPractice_9 (by decide) <|
    am_iconst (v := 3) d_Reck_findPractice_10 (by decide) <|
    am_iconst (v := 0) d_Reck_findPractice_11 (by decide) <|
    am_callV (vs := [.int 0, .int 3, .int 0]) (st := []) (k := 12) (ci := 3) rfl d_Reck_findPractice_12 rfl rfl w_867 w_806 w_807 w_87 w_808 p_Reck_mean (Nat.le_of_ble_eq_true rfl) (Nat.le_of_ble_eq_true rfl) rfl k
theorem b_Reck_findPractice_15 {d : Nat} {y0 : Int64} {h : am_H} {Q : am_Q} (k : m_Reck_gainBy d [.ref 12, .long y0, .int 0, .int 6, .int 1] h (fun r hh => am_W (X_Reck_findPractice (d + 1)) 27 [some (.ref 12), some (.long y0), none, some (.int 0), none, none, none, none, none] (r.toList ++ []) hh Q)) : am_W (X_Reck_findPractice (d + 1)) 15 [some (.ref 12), none, none, none, none, none, none, none, none] [.long y0] h Q :=
  am_lstore_n (ls' := [some (.ref 12), some (.long y0), none, none, none, none, none, none, none]) d_Reck_findPractice_15 rfl (Nat.le_of_ble_eq_true rfl) rfl <|
    am_iconst (v := 0) d_Reck_findPractice_16 (by decide) <|
    am_istore_n (ls' := [some (.ref 12), some (.long y0), none, some (.int 0), none, none, none, none, none]) d_Reck_findPractice_17 rfl (Nat.le_of_ble_eq_true rfl) rfl <|
    am_aload_n d_Reck_findPractice_18 rfl (i := 0) rfl <|
    am_lload_n d_Reck_findPractice_19 rfl (i := 1) rfl <|
    am_iconst (v := 0) d_Reck_findPractice_20 (by decide) <|
    am_bipush (v := 6) d_Reck_findPractice_21 (by decide) <|
    am_iconst (v := 1) d_Reck_findPractice_23 (by decide) <|
    am_callV (vs := [.long y0, .int 0, .int 6, .int 1]) (st := []) (k := 12) (ci := 3) rfl d_Reck_findPractice_24 rfl rfl w_916 w_918 w_22 w_87 w_919 p_Reck_gainBy (Nat.le_of_ble_eq_true rfl) (Nat.le_of_ble_eq_true rfl) rfl k
theorem b_Reck_findPractice_27 {d : Nat} {x1 : Int64} {x3 : Int32} {y0 : Int64} {h : am_H} {Q : am_Q} (k : am_W (X_Reck_findPractice d) 32 [some (.ref 12), some (.long x1), none, some (.int x3), some (.long y0), none, some (.int 0), none, none] [] h Q) : am_W (X_Reck_findPractice d) 27 [some (.ref 12), some (.long x1), none, some (.int x3), none, none, none, none, none] [.long y0] h Q :=
  am_lstore (ls' := [some (.ref 12), some (.long x1), none, some (.int x3), some (.long y0), none, none, none, none]) d_Reck_findPractice_27 (Nat.le_of_ble_eq_true rfl) rfl <|
    am_iconst (v := 0) d_Reck_findPractice_29 (by decide) <|
    am_istore (ls' := [some (.ref 12), some (.long x1), none, some (.int x3), some (.long y0), none, some (.int 0), none, none]) d_Reck_findPractice_30 (Nat.le_of_ble_eq_true rfl) rfl <|
    k
theorem b_Reck_findPractice_32 {d : Nat} {x1 : Int64} {x3 : Int32} {x4 : Int64} {x6 : Int32} {h : am_H} {Q : am_Q} (k : m_Hole_clubsHeld d [.ref 1] h (fun r hh => am_W (X_Reck_findPractice (d + 1)) 41 [some (.ref 12), some (.long x1), none, some (.int x3), some (.long x4), none, some (.int x6), none, none] (r.toList ++ [.int x6]) hh Q)) : am_W (X_Reck_findPractice (d + 1)) 32 [some (.ref 12), some (.long x1), none, some (.int x3), some (.long x4), none, some (.int x6), none, none] [] h Q :=
  am_iload d_Reck_findPractice_32 rfl <|
    am_aload_n d_Reck_findPractice_34 rfl (i := 0) rfl <|
    am_getR (ci := 3) (i := 0) rfl rfl rfl (Nat.le_of_ble_eq_true rfl) w_194 d_Reck_findPractice_35 <|
    am_callV (vs := []) (st := [.int x6]) (k := 1) (ci := 1) rfl d_Reck_findPractice_38 rfl rfl w_788 w_789 w_790 w_84 w_791 p_Hole_clubsHeld (Nat.le_of_ble_eq_true rfl) (Nat.le_of_ble_eq_true rfl) rfl k
theorem b_Reck_findPractice_41 {d : Nat} {x1 : Int64} {x3 : Int32} {x4 : Int64} {x6 : Int32} {y1 : Int32} {y0 : Int32} {h : am_H} {Q : am_Q} (kt : y1 ≤ y0 → am_W (X_Reck_findPractice d) 78 [some (.ref 12), some (.long x1), none, some (.int x3), some (.long x4), none, some (.int x6), none, none] [] h Q) (kf : ¬ y1 ≤ y0 → am_W (X_Reck_findPractice d) 44 [some (.ref 12), some (.long x1), none, some (.int x3), some (.long x4), none, some (.int x6), none, none] [] h Q) : am_W (X_Reck_findPractice d) 41 [some (.ref 12), some (.long x1), none, some (.int x3), some (.long x4), none, some (.int x6), none, none] [.int y1, .int y0] h Q :=
  am_icmp_ge (tgt := 78) d_Reck_findPractice_41 (by decide) kt kf
theorem b_Reck_findPractice_44 {d : Nat} {x1 : Int64} {x3 : Int32} {x4 : Int64} {x6 : Int32} {h : am_H} {Q : am_Q} (k : m_Reck_gainBy d [.ref 12, .long x1, .int x6, .int 2, .int (-1)] h (fun r hh => am_W (X_Reck_findPractice (d + 1)) 53 [some (.ref 12), some (.long x1), none, some (.int x3), some (.long x4), none, some (.int x6), none, none] (r.toList ++ []) hh Q)) : am_W (X_Reck_findPractice (d + 1)) 44 [some (.ref 12), some (.long x1), none, some (.int x3), some (.long x4), none, some (.int x6), none, none] [] h Q :=
  am_aload_n d_Reck_findPractice_44 rfl (i := 0) rfl <|
    am_lload_n d_Reck_findPractice_45 rfl (i := 1) rfl <|
    am_iload d_Reck_findPractice_46 rfl <|
    am_iconst (v := 2) d_Reck_findPractice_48 (by decide) <|
    am_iconst (v := (-1)) d_Reck_findPractice_49 (by decide) <|
    am_callV (vs := [.long x1, .int x6, .int 2, .int (-1)]) (st := []) (k := 12) (ci := 3) rfl d_Reck_findPractice_50 rfl rfl w_916 w_918 w_22 w_87 w_919 p_Reck_gainBy (Nat.le_of_ble_eq_true rfl) (Nat.le_of_ble_eq_true rfl) rfl k
theorem b_Reck_findPractice_53 {d : Nat} {x1 : Int64} {x3 : Int32} {x4 : Int64} {x6 : Int32} {y0 : Int64} {h : am_H} {Q : am_Q} (kt : y0 ≤ x4 → am_W (X_Reck_findPractice d) 72 [some (.ref 12), some (.long x1), none, some (.int x3), some (.long x4), none, some (.int x6), some (.long y0), none] [] h Q) (kf : ¬ y0 ≤ x4 → am_W (X_Reck_findPractice d) 63 [some (.ref 12), some (.long x1), none, some (.int x3), some (.long x4), none, some (.int x6), some (.long y0), none] [] h Q) : am_W (X_Reck_findPractice d) 53 [some (.ref 12), some (.long x1), none, some (.int x3), some (.long x4), none, some (.int x6), none, none] [.long y0] h Q :=
  am_lstore (ls' := [some (.ref 12), some (.long x1), none, some (.int x3), some (.long x4), none, some (.int x6), some (.long y0), none]) d_Reck_findPractice_53 (Nat.le_of_ble_eq_true rfl) rfl <|
    am_lload d_Reck_findPractice_55 rfl <|
    am_lload d_Reck_findPractice_57 rfl <|
    am_lc_if_le (tgt := 72) d_Reck_findPractice_59 d_Reck_findPractice_60 (by decide) kt kf
theorem b_Reck_findPractice_63 {d : Nat} {x1 : Int64} {x3 : Int32} {x4 : Int64} {x6 : Int32} {x7 : Int64} {h : am_H} {Q : am_Q} (k : am_W (X_Reck_findPractice d) 72 [some (.ref 12), some (.long x1), none, some (.int (x6 + 1)), some (.long x7), none, some (.int x6), some (.long x7), none] [] h Q) : am_W (X_Reck_findPractice d) 63 [some (.ref 12), some (.long x1), none, some (.int x3), some (.long x4), none, some (.int x6), some (.long x7), none] [] h Q :=
  am_lload d_Reck_findPractice_63 rfl <|
    am_lstore (ls' := [some (.ref 12), some (.long x1), none, some (.int x3), some (.long x7), none, some (.int x6), some (.long x7), none]) d_Reck_findPractice_65 (Nat.le_of_ble_eq_true rfl) rfl <|
    am_iload d_Reck_findPractice_67 rfl <|
    am_iconst (v := 1) d_Reck_findPractice_69 (by decide) <|
    am_iadd d_Reck_findPractice_70 <|
    am_istore_n (ls' := [some (.ref 12), some (.long x1), none, some (.int (x6 + 1)), some (.long x7), none, some (.int x6), some (.long x7), none]) d_Reck_findPractice_71 rfl (Nat.le_of_ble_eq_true rfl) rfl <|
    k
theorem b_Reck_findPractice_72 {d : Nat} {x1 : Int64} {x3 : Int32} {x4 : Int64} {x6 : Int32} {x7 : Int64} {h : am_H} {Q : am_Q} (k : am_W (X_Reck_findPractice d) 32 [some (.ref 12), some (.long x1), none, some (.int x3), some (.long x4), none, some (.int (x6 + 1)), some (.long x7), none] [] h Q) : am_W (X_Reck_findPractice d) 72 [some (.ref 12), some (.long x1), none, some (.int x3), some (.long x4), none, some (.int x6), some (.long x7), none] [] h Q :=
  am_iinc (v := (x6 + 1)) (ls' := [some (.ref 12), some (.long x1), none, some (.int x3), some (.long x4), none, some (.int (x6 + 1)), some (.long x7), none]) d_Reck_findPractice_72 rfl rfl (Nat.le_of_ble_eq_true rfl) rfl <|
    am_goto (tgt := 32) d_Reck_findPractice_75 (by decide) k
theorem b_Reck_findPractice_78 {d : Nat} {x1 : Int64} {x3 : Int32} {x4 : Int64} {x6 : Int32} {h : am_H} {Q : am_Q} (q : Q none (am_pI (am_pL (am_pI h 12 12 x3) 12 13 x4) 12 9 1)) : am_W (X_Reck_findPractice d) 78 [some (.ref 12), some (.long x1), none, some (.int x3), some (.long x4), none, some (.int x6), none, none] [] h Q :=
  am_aload_n d_Reck_findPractice_78 rfl (i := 0) rfl <|
    am_iload_n d_Reck_findPractice_79 rfl (i := 3) rfl <|
    am_putI (ci := 3) (i := 12) rfl rfl rfl (Nat.le_of_ble_eq_true rfl) w_206 rfl rfl rfl d_Reck_findPractice_80 <|
    am_aload_n d_Reck_findPractice_83 rfl (i := 0) rfl <|
    am_lload d_Reck_findPractice_84 rfl <|
    am_putL (ci := 3) (i := 13) rfl rfl rfl (Nat.le_of_ble_eq_true rfl) w_207 rfl rfl rfl d_Reck_findPractice_86 <|
    am_aload_n d_Reck_findPractice_89 rfl (i := 0) rfl <|
    am_iconst (v := 1) d_Reck_findPractice_90 (by decide) <|
    am_putI (ci := 3) (i := 9) rfl rfl rfl (Nat.le_of_ble_eq_true rfl) w_203 rfl (by decide) (by decide) d_Reck_findPractice_91 <|
    am_vret rfl d_Reck_findPractice_94 q
theorem t_Reck_findPractice_78 {d : Nat} {x1 : Int64} {x3 : Int32} {x4 : Int64} {x6 : Int32} {h : am_H} {Q : am_Q} {res : am_H} (e : f_Reck_findPractice_78 h x3 x4 = some res) (q : Q none res) : am_W (X_Reck_findPractice (d + 6)) 78 [some (.ref 12), some (.long x1), none, some (.int x3), some (.long x4), none, some (.int x6), none, none] [] h Q :=
  b_Reck_findPractice_78 (d := (d + 6)) (q := (am_rVpi e q))
theorem t_Reck_findPractice_72 {d : Nat} {k32 : am_H → Int64 → Int32 → Int64 → Int32 → Option (am_H)} {x1 : Int64} {x3 : Int32} {x4 : Int64} {x6 : Int32} {x7 : Int64} {h : am_H} {Q : am_Q} {res : am_H} (hk32 : ∀ (x1 : Int64) (x3 : Int32) (x4 : Int64) (x6 : Int32) (h : am_H), k32 h x1 x3 x4 x6 = some res → am_W (X_Reck_findPractice (d + 6)) 32 [some (.ref 12), some (.long x1), none, some (.int x3), some (.long x4), none, some (.int x6), none, none] [] h Q) (e : f_Reck_findPractice_72 k32 h x1 x3 x4 x6 = some res) (q : Q none res) : am_W (X_Reck_findPractice (d + 6)) 72 [some (.ref 12), some (.long x1), none, some (.int x3), some (.long x4), none, some (.int x6), some (.long x7), none] [] h Q :=
  b_Reck_findPractice_72 (d := (d + 6)) (k := (am_wk2 (hk32 _ _ _ _ _ e) ⟨rfl, ⟨rfl, ⟨rfl, ⟨rfl, ⟨rfl, trivial⟩⟩⟩⟩⟩))
theorem t_Reck_findPractice_63 {d : Nat} {k32 : am_H → Int64 → Int32 → Int64 → Int32 → Option (am_H)} {x1 : Int64} {x3 : Int32} {x4 : Int64} {x6 : Int32} {x7 : Int64} {h : am_H} {Q : am_Q} {res : am_H} (hk32 : ∀ (x1 : Int64) (x3 : Int32) (x4 : Int64) (x6 : Int32) (h : am_H), k32 h x1 x3 x4 x6 = some res → am_W (X_Reck_findPractice (d + 6)) 32 [some (.ref 12), some (.long x1), none, some (.int x3), some (.long x4), none, some (.int x6), none, none] [] h Q) (e : f_Reck_findPractice_63 k32 h x1 x6 x7 = some res) (q : Q none res) : am_W (X_Reck_findPractice (d + 6)) 63 [some (.ref 12), some (.long x1), none, some (.int x3), some (.long x4), none, some (.int x6), some (.long x7), none] [] h Q :=
  b_Reck_findPractice_63 (d := (d + 6)) (k := (t_Reck_findPractice_72 hk32 e q))
theorem t_Reck_findPractice_53 {d : Nat} {k32 : am_H → Int64 → Int32 → Int64 → Int32 → Option (am_H)} {x1 : Int64} {x3 : Int32} {x4 : Int64} {x6 : Int32} {y0 : Int64} {h : am_H} {Q : am_Q} {res : am_H} (hk32 : ∀ (x1 : Int64) (x3 : Int32) (x4 : Int64) (x6 : Int32) (h : am_H), k32 h x1 x3 x4 x6 = some res → am_W (X_Reck_findPractice (d + 6)) 32 [some (.ref 12), some (.long x1), none, some (.int x3), some (.long x4), none, some (.int x6), none, none] [] h Q) (e : f_Reck_findPractice_53 k32 h x1 x3 x4 x6 y0 = some res) (q : Q none res) : am_W (X_Reck_findPractice (d + 6)) 53 [some (.ref 12), some (.long x1), none, some (.int x3), some (.long x4), none, some (.int x6), none, none] [.long y0] h Q :=
  b_Reck_findPractice_53 (d := (d + 6)) (kt := fun c => (t_Reck_findPractice_72 hk32 (am_ift e c) q)) (kf := fun c => (t_Reck_findPractice_63 hk32 (am_ife e c) q))
theorem t_Reck_findPractice_44 {d : Nat} {k32 : am_H → Int64 → Int32 → Int64 → Int32 → Option (am_H)} {x1 : Int64} {x3 : Int32} {x4 : Int64} {x6 : Int32} {h : am_H} {Q : am_Q} {res : am_H} (hk32 : ∀ (x1 : Int64) (x3 : Int32) (x4 : Int64) (x6 : Int32) (h : am_H), k32 h x1 x3 x4 x6 = some res → am_W (X_Reck_findPractice (d + 6)) 32 [some (.ref 12), some (.long x1), none, some (.int x3), some (.long x4), none, some (.int x6), none, none] [] h Q) (e : f_Reck_findPractice_44 k32 h x1 x3 x4 x6 = some res) (q : Q none res) : am_W (X_Reck_findPractice (d + 6)) 44 [some (.ref 12), some (.long x1), none, some (.int x3), some (.long x4), none, some (.int x6), none, none] [] h Q :=
  (am_bd e).elim fun p hp => b_Reck_findPractice_44 (d := (d + 5)) (k := c_Reck_gainBy (d := d) hp.1 (t_Reck_findPractice_53 hk32 hp.2 q))
theorem t_Reck_findPractice_41 {d : Nat} {k32 : am_H → Int64 → Int32 → Int64 → Int32 → Option (am_H)} {x1 : Int64} {x3 : Int32} {x4 : Int64} {x6 : Int32} {y1 : Int32} {y0 : Int32} {h : am_H} {Q : am_Q} {res : am_H} (hk32 : ∀ (x1 : Int64) (x3 : Int32) (x4 : Int64) (x6 : Int32) (h : am_H), k32 h x1 x3 x4 x6 = some res → am_W (X_Reck_findPractice (d + 6)) 32 [some (.ref 12), some (.long x1), none, some (.int x3), some (.long x4), none, some (.int x6), none, none] [] h Q) (e : f_Reck_findPractice_41 k32 h x1 x3 x4 x6 y1 y0 = some res) (q : Q none res) : am_W (X_Reck_findPractice (d + 6)) 41 [some (.ref 12), some (.long x1), none, some (.int x3), some (.long x4), none, some (.int x6), none, none] [.int y1, .int y0] h Q :=
  b_Reck_findPractice_41 (d := (d + 6)) (kt := fun c => (t_Reck_findPractice_78 (am_ift e c) q)) (kf := fun c => (t_Reck_findPractice_44 hk32 (am_ife e c) q))
theorem t_Reck_findPractice_32 {d : Nat} {k32 : am_H → Int64 → Int32 → Int64 → Int32 → Option (am_H)} {x1 : Int64} {x3 : Int32} {x4 : Int64} {x6 : Int32} {h : am_H} {Q : am_Q} {res : am_H} (hk32 : ∀ (x1 : Int64) (x3 : Int32) (x4 : Int64) (x6 : Int32) (h : am_H), k32 h x1 x3 x4 x6 = some res → am_W (X_Reck_findPractice (d + 6)) 32 [some (.ref 12), some (.long x1), none, some (.int x3), some (.long x4), none, some (.int x6), none, none] [] h Q) (e : f_Reck_findPractice_32 k32 h x1 x3 x4 x6 = some res) (q : Q none res) : am_W (X_Reck_findPractice (d + 6)) 32 [some (.ref 12), some (.long x1), none, some (.int x3), some (.long x4), none, some (.int x6), none, none] [] h Q :=
  b_Reck_findPractice_32 (d := (d + 5)) (k := c_Hole_clubsHeld (d := d + 5) rfl (t_Reck_findPractice_41 hk32 e q))
theorem t_Reck_findPractice_32_l {d : Nat} {Q : am_Q} {res : am_H} (q : Q none res) : ∀ (n : Nat) (x1 : Int64) (x3 : Int32) (x4 : Int64) (x6 : Int32) (h : am_H), f_Reck_findPractice_32_l n h x1 x3 x4 x6 = some res → am_W (X_Reck_findPractice (d + 6)) 32 [some (.ref 12), some (.long x1), none, some (.int x3), some (.long x4), none, some (.int x6), none, none] [] h Q := by
  intro n
  induction n with
  | zero => intro x1 x3 x4 x6 h e; exact am_nn e
  | succ n ih => intro x1 x3 x4 x6 h e; exact t_Reck_findPractice_32 (fun x1 x3 x4 x6 h e => ih x1 x3 x4 x6 h  e) e q
theorem t_Reck_findPractice_27 {d : Nat} {x1 : Int64} {x3 : Int32} {y0 : Int64} {h : am_H} {Q : am_Q} {res : am_H} (e : f_Reck_findPractice_27 h x1 x3 y0 = some res) (q : Q none res) : am_W (X_Reck_findPractice (d + 6)) 27 [some (.ref 12), some (.long x1), none, some (.int x3), none, none, none, none, none] [.long y0] h Q :=
  b_Reck_findPractice_27 (d := (d + 6)) (k := (t_Reck_findPractice_32_l q am_fu _ _ _ _ _ e))
theorem t_Reck_findPractice_15 {d : Nat} {y0 : Int64} {h : am_H} {Q : am_Q} {res : am_H} (e : f_Reck_findPractice_15 h y0 = some res) (q : Q none res) : am_W (X_Reck_findPractice (d + 6)) 15 [some (.ref 12), none, none, none, none, none, none, none, none] [.long y0] h Q :=
  (am_bd e).elim fun p hp => b_Reck_findPractice_15 (d := (d + 5)) (k := c_Reck_gainBy (d := d) hp.1 (t_Reck_findPractice_27 hp.2 q))
theorem t_Reck_findPractice_8 {d : Nat} {h : am_H} {Q : am_Q} {res : am_H} (e : f_Reck_findPractice_8 h = some res) (q : Q none res) : am_W (X_Reck_findPractice (d + 6)) 8 [some (.ref 12), none, none, none, none, none, none, none, none] [] h Q :=
  (am_bd e).elim fun p hp => b_Reck_findPractice_8 (d := (d + 5)) (k := c_Reck_mean (d := d + 1) hp.1 (t_Reck_findPractice_15 hp.2 q))
theorem t_Reck_findPractice_7 {d : Nat} {h : am_H} {Q : am_Q} {res : am_H} (e : f_Reck_findPractice_7 h = some res) (q : Q none res) : am_W (X_Reck_findPractice (d + 6)) 7 [some (.ref 12), none, none, none, none, none, none, none, none] [] h Q :=
  b_Reck_findPractice_7 (d := (d + 6)) (q := (am_rVpi e q))
theorem t_Reck_findPractice_0 {d : Nat} {h : am_H} {Q : am_Q} {res : am_H} (e : f_Reck_findPractice h = some res) (q : Q none res) : am_W (X_Reck_findPractice (d + 6)) 0 [some (.ref 12), none, none, none, none, none, none, none, none] [] h Q :=
  b_Reck_findPractice_0 (d := (d + 6)) (kt := fun c => (t_Reck_findPractice_8 (am_ift e c) q)) (kf := fun c => (t_Reck_findPractice_7 (am_ife e c) q))
theorem c_Reck_findPractice {d : Nat} {h : am_H} {Q : am_Q} {res : am_H} (e : f_Reck_findPractice h = some res) (q : Q none res) : m_Reck_findPractice (d + 6) [.ref 12] h Q :=
  e_Reck_findPractice (t_Reck_findPractice_0 e q)
theorem d_Reck_practiceGain_0 : decode prog_7_method_20_code 0 = .ok (.aload_n 0, 1) := by decide +kernel
theorem d_Reck_practiceGain_1 : decode prog_7_method_20_code 1 = .ok (.getfield 50, 3) := by decide +kernel
theorem d_Reck_practiceGain_4 : decode prog_7_method_20_code 4 = .ok (.lreturn, 1) := by decide +kernel
theorem b_Reck_practiceGain_0 {d : Nat} {h : am_H} {Q : am_Q} (q : Q (some (.long (h.2 12 13))) h) : am_W (X_Reck_practiceGain d) 0 [some (.ref 12)] [] h Q :=
  am_aload_n d_Reck_practiceGain_0 rfl (i := 0) rfl <|
    am_getL (ci := 3) (i := 13) rfl rfl rfl (Nat.le_of_ble_eq_true rfl) w_207 d_Reck_practiceGain_1 <|
    am_lret rfl d_Reck_practiceGain_4 q
theorem t_Reck_practiceGain_0 {d : Nat} {h : am_H} {Q : am_Q} {res : Int64} (e : f_Reck_practiceGain h = res) (q : Q (some (.long res)) h) : am_W (X_Reck_practiceGain d) 0 [some (.ref 12)] [] h Q :=
  b_Reck_practiceGain_0 (d := d) (q := (am_rJt (v := (h.2 12 13)) e q))
theorem c_Reck_practiceGain {d : Nat} {h : am_H} {Q : am_Q} {res : Int64} (e : f_Reck_practiceGain h = res) (q : Q (some (.long res)) h) : m_Reck_practiceGain d [.ref 12] h Q :=
  e_Reck_practiceGain (t_Reck_practiceGain_0 e q)
theorem d_Reck_practiceWhich_0 : decode prog_7_method_19_code 0 = .ok (.aload_n 0, 1) := by decide +kernel
theorem d_Reck_practiceWhich_1 : decode prog_7_method_19_code 1 = .ok (.getfield 46, 3) := by decide +kernel
theorem d_Reck_practiceWhich_4 : decode prog_7_method_19_code 4 = .ok (.ireturn, 1) := by decide +kernel
theorem b_Reck_practiceWhich_0 {d : Nat} {h : am_H} {Q : am_Q} (q : Q (some (.int (h.1 12 12))) h) : am_W (X_Reck_practiceWhich d) 0 [some (.ref 12)] [] h Q :=
  am_aload_n d_Reck_practiceWhich_0 rfl (i := 0) rfl <|
    am_getI (ci := 3) (i := 12) rfl rfl rfl (Nat.le_of_ble_eq_true rfl) w_206 d_Reck_practiceWhich_1 <|
    am_iret rfl d_Reck_practiceWhich_4 q
theorem t_Reck_practiceWhich_0 {d : Nat} {h : am_H} {Q : am_Q} {res : Int32} (e : f_Reck_practiceWhich h = res) (q : Q (some (.int res)) h) : am_W (X_Reck_practiceWhich d) 0 [some (.ref 12)] [] h Q :=
  b_Reck_practiceWhich_0 (d := d) (q := (am_rIt (v := (h.1 12 12)) e q))
theorem c_Reck_practiceWhich {d : Nat} {h : am_H} {Q : am_Q} {res : Int32} (e : f_Reck_practiceWhich h = res) (q : Q (some (.int res)) h) : m_Reck_practiceWhich d [.ref 12] h Q :=
  e_Reck_practiceWhich (t_Reck_practiceWhich_0 e q)
theorem d_Club_practise_0 : decode prog_1_method_18_code 0 = .ok (.iload_n 1, 1) := by decide +kernel
theorem d_Club_practise_1 : decode prog_1_method_18_code 1 = .ok (.ifCond .lt 8, 3) := by decide +kernel
theorem d_Club_practise_4 : decode prog_1_method_18_code 4 = .ok (.iload_n 1, 1) := by decide +kernel
theorem d_Club_practise_5 : decode prog_1_method_18_code 5 = .ok (.iconst 2, 1) := by decide +kernel
theorem d_Club_practise_6 : decode prog_1_method_18_code 6 = .ok (.if_icmp .le 7, 3) := by decide +kernel
theorem d_Club_practise_9 : decode prog_1_method_18_code 9 = .ok (.ldc2_w 155, 3) := by decide +kernel
theorem d_Club_practise_12 : decode prog_1_method_18_code 12 = .ok (.lreturn, 1) := by decide +kernel
theorem d_Club_practise_13 : decode prog_1_method_18_code 13 = .ok (.aload_n 0, 1) := by decide +kernel
theorem d_Club_practise_14 : decode prog_1_method_18_code 14 = .ok (.getfield 30, 3) := by decide +kernel
theorem d_Club_practise_17 : decode prog_1_method_18_code 17 = .ok (.invokevirtual 229, 3) := by decide +kernel
theorem d_Club_practise_20 : decode prog_1_method_18_code 20 = .ok (.iload_n 1, 1) := by decide +kernel
theorem d_Club_practise_21 : decode prog_1_method_18_code 21 = .ok (.iconst 2, 1) := by decide +kernel
theorem d_Club_practise_22 : decode prog_1_method_18_code 22 = .ok (.if_icmp .ne 12, 3) := by decide +kernel
theorem d_Club_practise_25 : decode prog_1_method_18_code 25 = .ok (.aload_n 0, 1) := by decide +kernel
theorem d_Club_practise_26 : decode prog_1_method_18_code 26 = .ok (.getfield 30, 3) := by decide +kernel
theorem d_Club_practise_29 : decode prog_1_method_18_code 29 = .ok (.invokevirtual 232, 3) := by decide +kernel
theorem d_Club_practise_32 : decode prog_1_method_18_code 32 = .ok (.i2l, 1) := by decide +kernel
theorem d_Club_practise_33 : decode prog_1_method_18_code 33 = .ok (.lreturn, 1) := by decide +kernel
theorem d_Club_practise_34 : decode prog_1_method_18_code 34 = .ok (.aload_n 0, 1) := by decide +kernel
theorem d_Club_practise_35 : decode prog_1_method_18_code 35 = .ok (.getfield 30, 3) := by decide +kernel
theorem d_Club_practise_38 : decode prog_1_method_18_code 38 = .ok (.invokevirtual 235, 3) := by decide +kernel
theorem d_Club_practise_41 : decode prog_1_method_18_code 41 = .ok (.iconst 3, 1) := by decide +kernel
theorem d_Club_practise_42 : decode prog_1_method_18_code 42 = .ok (.invokestatic 200, 3) := by decide +kernel
theorem d_Club_practise_45 : decode prog_1_method_18_code 45 = .ok (.iload_n 1, 1) := by decide +kernel
theorem d_Club_practise_46 : decode prog_1_method_18_code 46 = .ok (.invokestatic 170, 3) := by decide +kernel
theorem d_Club_practise_49 : decode prog_1_method_18_code 49 = .ok (.lreturn, 1) := by decide +kernel
theorem b_Club_practise_0 {d : Nat} {x1 : Int32} {h : am_H} {Q : am_Q} (kt : x1 < 0 → am_W (X_Club_practise d) 9 [some (.ref 0), some (.int x1)] [] h Q) (kf : ¬ x1 < 0 → am_W (X_Club_practise d) 4 [some (.ref 0), some (.int x1)] [] h Q) : am_W (X_Club_practise d) 0 [some (.ref 0), some (.int x1)] [] h Q :=
  am_iload_n d_Club_practise_0 rfl (i := 1) rfl <|
    am_if_lt (tgt := 9) d_Club_practise_1 (by decide) kt kf
theorem b_Club_practise_4 {d : Nat} {x1 : Int32} {h : am_H} {Q : am_Q} (kt : x1 ≤ 2 → am_W (X_Club_practise d) 13 [some (.ref 0), some (.int x1)] [] h Q) (kf : ¬ x1 ≤ 2 → am_W (X_Club_practise d) 9 [some (.ref 0), some (.int x1)] [] h Q) : am_W (X_Club_practise d) 4 [some (.ref 0), some (.int x1)] [] h Q :=
  am_iload_n d_Club_practise_4 rfl (i := 1) rfl <|
    am_iconst (v := 2) d_Club_practise_5 (by decide) <|
    am_icmp_le (tgt := 13) d_Club_practise_6 (by decide) kt kf
theorem b_Club_practise_9 {d : Nat} {x1 : Int32} {h : am_H} {Q : am_Q} (q : Q (some (.long (-9223372036854775808))) h) : am_W (X_Club_practise d) 9 [some (.ref 0), some (.int x1)] [] h Q :=
  am_ldc2 (v := (-9223372036854775808)) d_Club_practise_9 w_683 <|
    am_lret rfl d_Club_practise_12 q
theorem b_Club_practise_13 {d : Nat} {x1 : Int32} {h : am_H} {Q : am_Q} (k : m_Reck_findPractice d [.ref 12] h (fun r hh => am_W (X_Club_practise (d + 1)) 20 [some (.ref 0), some (.int x1)] (r.toList ++ []) hh Q)) : am_W (X_Club_practise (d + 1)) 13 [some (.ref 0), some (.int x1)] [] h Q :=
  am_aload_n d_Club_practise_13 rfl (i := 0) rfl <|
    am_getR (ci := 0) (i := 2) rfl rfl rfl (Nat.le_of_ble_eq_true rfl) w_364 d_Club_practise_14 <|
    am_callV (vs := []) (st := []) (k := 12) (ci := 3) rfl d_Club_practise_17 rfl rfl w_912 w_913 w_914 w_87 w_915 p_Reck_findPractice (Nat.le_of_ble_eq_true rfl) (Nat.le_of_ble_eq_true rfl) rfl k
theorem b_Club_practise_20 {d : Nat} {x1 : Int32} {h : am_H} {Q : am_Q} (kt : ¬ x1 = 2 → am_W (X_Club_practise d) 34 [some (.ref 0), some (.int x1)] [] h Q) (kf : x1 = 2 → am_W (X_Club_practise d) 25 [some (.ref 0), some (.int x1)] [] h Q) : am_W (X_Club_practise d) 20 [some (.ref 0), some (.int x1)] [] h Q :=
  am_iload_n d_Club_practise_20 rfl (i := 1) rfl <|
    am_iconst (v := 2) d_Club_practise_21 (by decide) <|
    am_icmp_ne (tgt := 34) d_Club_practise_22 (by decide) kt kf
theorem b_Club_practise_25 {d : Nat} {x1 : Int32} {h : am_H} {Q : am_Q} (k : m_Reck_practiceWhich d [.ref 12] h (fun r hh => am_W (X_Club_practise (d + 1)) 32 [some (.ref 0), some (.int x1)] (r.toList ++ []) hh Q)) : am_W (X_Club_practise (d + 1)) 25 [some (.ref 0), some (.int x1)] [] h Q :=
  am_aload_n d_Club_practise_25 rfl (i := 0) rfl <|
    am_getR (ci := 0) (i := 2) rfl rfl rfl (Nat.le_of_ble_eq_true rfl) w_364 d_Club_practise_26 <|
    am_callV (vs := []) (st := []) (k := 12) (ci := 3) rfl d_Club_practise_29 rfl rfl w_923 w_924 w_925 w_87 w_926 p_Reck_practiceWhich (Nat.le_of_ble_eq_true rfl) (Nat.le_of_ble_eq_true rfl) rfl k
theorem b_Club_practise_32 {d : Nat} {x1 : Int32} {y0 : Int32} {h : am_H} {Q : am_Q} (q : Q (some (.long y0.toInt64)) h) : am_W (X_Club_practise d) 32 [some (.ref 0), some (.int x1)] [.int y0] h Q :=
  am_i2l d_Club_practise_32 <|
    am_lret rfl d_Club_practise_33 q
theorem b_Club_practise_34 {d : Nat} {x1 : Int32} {h : am_H} {Q : am_Q} (k : m_Reck_practiceGain d [.ref 12] h (fun r hh => am_W (X_Club_practise (d + 1)) 41 [some (.ref 0), some (.int x1)] (r.toList ++ []) hh Q)) : am_W (X_Club_practise (d + 1)) 34 [some (.ref 0), some (.int x1)] [] h Q :=
  am_aload_n d_Club_practise_34 rfl (i := 0) rfl <|
    am_getR (ci := 0) (i := 2) rfl rfl rfl (Nat.le_of_ble_eq_true rfl) w_364 d_Club_practise_35 <|
    am_callV (vs := []) (st := []) (k := 12) (ci := 3) rfl d_Club_practise_38 rfl rfl w_927 w_928 w_929 w_87 w_930 p_Reck_practiceGain (Nat.le_of_ble_eq_true rfl) (Nat.le_of_ble_eq_true rfl) rfl k
theorem b_Club_practise_41 {d : Nat} {x1 : Int32} {y0 : Int64} {h : am_H} {Q : am_Q} (k : m_Reck_unit d [.int 3] h (fun r hh => am_W (X_Club_practise (d + 1)) 45 [some (.ref 0), some (.int x1)] (r.toList ++ [.long y0]) hh Q)) : am_W (X_Club_practise (d + 1)) 41 [some (.ref 0), some (.int x1)] [.long y0] h Q :=
  am_iconst (v := 3) d_Club_practise_41 (by decide) <|
    am_callS (vs := [.int 3]) (st := [.long y0]) rfl d_Club_practise_42 w_848 w_820 w_87 w_821 p_Reck_unit (Nat.le_of_ble_eq_true rfl) (Nat.le_of_ble_eq_true rfl) rfl k
theorem b_Club_practise_45 {d : Nat} {x1 : Int32} {y1 : Int64} {y0 : Int64} {h : am_H} {Q : am_Q} (k : m_Club_partOf d [.long y0, .long y1, .int x1] h (fun r hh => am_W (X_Club_practise (d + 1)) 49 [some (.ref 0), some (.int x1)] (r.toList ++ []) hh Q)) : am_W (X_Club_practise (d + 1)) 45 [some (.ref 0), some (.int x1)] [.long y1, .long y0] h Q :=
  am_iload_n d_Club_practise_45 rfl (i := 1) rfl <|
    am_callS (vs := [.long y0, .long y1, .int x1]) (st := []) rfl d_Club_practise_46 w_712 w_713 w_83 w_714 p_Club_partOf (Nat.le_of_ble_eq_true rfl) (Nat.le_of_ble_eq_true rfl) rfl k
theorem b_Club_practise_49 {d : Nat} {x1 : Int32} {y0 : Int64} {h : am_H} {Q : am_Q} (q : Q (some (.long y0)) h) : am_W (X_Club_practise d) 49 [some (.ref 0), some (.int x1)] [.long y0] h Q :=
  am_lret rfl d_Club_practise_49 q
theorem t_Club_practise_9 {d : Nat} {x1 : Int32} {h : am_H} {Q : am_Q} {res : Int64 × am_H} (e : f_Club_practise_9 h = some res) (q : Q (some (.long res.1)) res.2) : am_W (X_Club_practise (d + 7)) 9 [some (.ref 0), some (.int x1)] [] h Q :=
  b_Club_practise_9 (d := (d + 7)) (q := (am_rJpi (v := (-9223372036854775808)) e q))
theorem t_Club_practise_49 {d : Nat} {x1 : Int32} {y0 : Int64} {h : am_H} {Q : am_Q} {res : Int64 × am_H} (e : f_Club_practise_49 h y0 = some res) (q : Q (some (.long res.1)) res.2) : am_W (X_Club_practise (d + 7)) 49 [some (.ref 0), some (.int x1)] [.long y0] h Q :=
  b_Club_practise_49 (d := (d + 7)) (q := (am_rJpi (v := y0) e q))
theorem t_Club_practise_45 {d : Nat} {x1 : Int32} {y1 : Int64} {y0 : Int64} {h : am_H} {Q : am_Q} {res : Int64 × am_H} (e : f_Club_practise_45 h x1 y1 y0 = some res) (q : Q (some (.long res.1)) res.2) : am_W (X_Club_practise (d + 7)) 45 [some (.ref 0), some (.int x1)] [.long y1, .long y0] h Q :=
  (am_bd e).elim fun p hp => b_Club_practise_45 (d := (d + 6)) (k := c_Club_partOf (d := d + 5) hp.1 (t_Club_practise_49 hp.2 q))
theorem t_Club_practise_41 {d : Nat} {x1 : Int32} {y0 : Int64} {h : am_H} {Q : am_Q} {res : Int64 × am_H} (e : f_Club_practise_41 h x1 y0 = some res) (q : Q (some (.long res.1)) res.2) : am_W (X_Club_practise (d + 7)) 41 [some (.ref 0), some (.int x1)] [.long y0] h Q :=
  (am_bd e).elim fun p hp => b_Club_practise_41 (d := (d + 6)) (k := c_Reck_unit (d := d + 6) hp.1 (t_Club_practise_45 hp.2 q))
theorem t_Club_practise_34 {d : Nat} {x1 : Int32} {h : am_H} {Q : am_Q} {res : Int64 × am_H} (e : f_Club_practise_34 h x1 = some res) (q : Q (some (.long res.1)) res.2) : am_W (X_Club_practise (d + 7)) 34 [some (.ref 0), some (.int x1)] [] h Q :=
  b_Club_practise_34 (d := (d + 6)) (k := c_Reck_practiceGain (d := d + 6) rfl (t_Club_practise_41 e q))
theorem t_Club_practise_32 {d : Nat} {x1 : Int32} {y0 : Int32} {h : am_H} {Q : am_Q} {res : Int64 × am_H} (e : f_Club_practise_32 h y0 = some res) (q : Q (some (.long res.1)) res.2) : am_W (X_Club_practise (d + 7)) 32 [some (.ref 0), some (.int x1)] [.int y0] h Q :=
  b_Club_practise_32 (d := (d + 7)) (q := (am_rJpi (v := y0.toInt64) e q))
theorem t_Club_practise_25 {d : Nat} {x1 : Int32} {h : am_H} {Q : am_Q} {res : Int64 × am_H} (e : f_Club_practise_25 h = some res) (q : Q (some (.long res.1)) res.2) : am_W (X_Club_practise (d + 7)) 25 [some (.ref 0), some (.int x1)] [] h Q :=
  b_Club_practise_25 (d := (d + 6)) (k := c_Reck_practiceWhich (d := d + 6) rfl (t_Club_practise_32 e q))
theorem t_Club_practise_20 {d : Nat} {x1 : Int32} {h : am_H} {Q : am_Q} {res : Int64 × am_H} (e : f_Club_practise_20 h x1 = some res) (q : Q (some (.long res.1)) res.2) : am_W (X_Club_practise (d + 7)) 20 [some (.ref 0), some (.int x1)] [] h Q :=
  b_Club_practise_20 (d := (d + 7)) (kt := fun c => (t_Club_practise_34 (am_ife e c) q)) (kf := fun c => (t_Club_practise_25 (am_ift e c) q))
theorem t_Club_practise_13 {d : Nat} {x1 : Int32} {h : am_H} {Q : am_Q} {res : Int64 × am_H} (e : f_Club_practise_13 h x1 = some res) (q : Q (some (.long res.1)) res.2) : am_W (X_Club_practise (d + 7)) 13 [some (.ref 0), some (.int x1)] [] h Q :=
  (am_bd e).elim fun p hp => b_Club_practise_13 (d := (d + 6)) (k := c_Reck_findPractice (d := d) hp.1 (t_Club_practise_20 hp.2 q))
theorem t_Club_practise_4 {d : Nat} {x1 : Int32} {h : am_H} {Q : am_Q} {res : Int64 × am_H} (e : f_Club_practise_4 h x1 = some res) (q : Q (some (.long res.1)) res.2) : am_W (X_Club_practise (d + 7)) 4 [some (.ref 0), some (.int x1)] [] h Q :=
  b_Club_practise_4 (d := (d + 7)) (kt := fun c => (t_Club_practise_13 (am_ift e c) q)) (kf := fun c => (t_Club_practise_9 (am_ife e c) q))
theorem t_Club_practise_0 {d : Nat} {x1 : Int32} {h : am_H} {Q : am_Q} {res : Int64 × am_H} (e : f_Club_practise h x1 = some res) (q : Q (some (.long res.1)) res.2) : am_W (X_Club_practise (d + 7)) 0 [some (.ref 0), some (.int x1)] [] h Q :=
  b_Club_practise_0 (d := (d + 7)) (kt := fun c => (t_Club_practise_9 (am_ift e c) q)) (kf := fun c => (t_Club_practise_4 (am_ife e c) q))
theorem c_Club_practise {d : Nat} {x1 : Int32} {h : am_H} {Q : am_Q} {res : Int64 × am_H} (e : f_Club_practise h x1 = some res) (q : Q (some (.long res.1)) res.2) : m_Club_practise (d + 7) [.ref 0, .int x1] h Q :=
  e_Club_practise (t_Club_practise_0 e q)
theorem d_Reck_costOfBelief_0 : decode prog_7_method_23_code 0 = .ok (.aload_n 0, 1) := by decide +kernel
theorem d_Reck_costOfBelief_1 : decode prog_7_method_23_code 1 = .ok (.getfield 40, 3) := by decide +kernel
theorem d_Reck_costOfBelief_4 : decode prog_7_method_23_code 4 = .ok (.ifCond .eq 8, 3) := by decide +kernel
theorem d_Reck_costOfBelief_7 : decode prog_7_method_23_code 7 = .ok (.aload_n 0, 1) := by decide +kernel
theorem d_Reck_costOfBelief_8 : decode prog_7_method_23_code 8 = .ok (.getfield 54, 3) := by decide +kernel
theorem d_Reck_costOfBelief_11 : decode prog_7_method_23_code 11 = .ok (.lreturn, 1) := by decide +kernel
theorem d_Reck_costOfBelief_12 : decode prog_7_method_23_code 12 = .ok (.aload_n 0, 1) := by decide +kernel
theorem d_Reck_costOfBelief_13 : decode prog_7_method_23_code 13 = .ok (.iconst 0, 1) := by decide +kernel
theorem d_Reck_costOfBelief_14 : decode prog_7_method_23_code 14 = .ok (.iconst 3, 1) := by decide +kernel
theorem d_Reck_costOfBelief_15 : decode prog_7_method_23_code 15 = .ok (.invokevirtual 200, 3) := by decide +kernel
theorem d_Reck_costOfBelief_18 : decode prog_7_method_23_code 18 = .ok (.lstore_n 1, 1) := by decide +kernel
theorem d_Reck_costOfBelief_19 : decode prog_7_method_23_code 19 = .ok (.aload_n 0, 1) := by decide +kernel
theorem d_Reck_costOfBelief_20 : decode prog_7_method_23_code 20 = .ok (.iconst 1, 1) := by decide +kernel
theorem d_Reck_costOfBelief_21 : decode prog_7_method_23_code 21 = .ok (.putfield 43, 3) := by decide +kernel
theorem d_Reck_costOfBelief_24 : decode prog_7_method_23_code 24 = .ok (.aload_n 0, 1) := by decide +kernel
theorem d_Reck_costOfBelief_25 : decode prog_7_method_23_code 25 = .ok (.invokevirtual 68, 3) := by decide +kernel
theorem d_Reck_costOfBelief_28 : decode prog_7_method_23_code 28 = .ok (.aload_n 0, 1) := by decide +kernel
theorem d_Reck_costOfBelief_29 : decode prog_7_method_23_code 29 = .ok (.iconst 0, 1) := by decide +kernel
theorem d_Reck_costOfBelief_30 : decode prog_7_method_23_code 30 = .ok (.iconst 3, 1) := by decide +kernel
theorem d_Reck_costOfBelief_31 : decode prog_7_method_23_code 31 = .ok (.invokevirtual 200, 3) := by decide +kernel
theorem d_Reck_costOfBelief_34 : decode prog_7_method_23_code 34 = .ok (.lstore_n 3, 1) := by decide +kernel
theorem d_Reck_costOfBelief_35 : decode prog_7_method_23_code 35 = .ok (.aload_n 0, 1) := by decide +kernel
theorem d_Reck_costOfBelief_36 : decode prog_7_method_23_code 36 = .ok (.iconst 0, 1) := by decide +kernel
theorem d_Reck_costOfBelief_37 : decode prog_7_method_23_code 37 = .ok (.putfield 43, 3) := by decide +kernel
theorem d_Reck_costOfBelief_40 : decode prog_7_method_23_code 40 = .ok (.aload_n 0, 1) := by decide +kernel
theorem d_Reck_costOfBelief_41 : decode prog_7_method_23_code 41 = .ok (.invokevirtual 68, 3) := by decide +kernel
theorem d_Reck_costOfBelief_44 : decode prog_7_method_23_code 44 = .ok (.aload_n 0, 1) := by decide +kernel
theorem d_Reck_costOfBelief_45 : decode prog_7_method_23_code 45 = .ok (.lload_n 1, 1) := by decide +kernel
theorem d_Reck_costOfBelief_46 : decode prog_7_method_23_code 46 = .ok (.lload_n 3, 1) := by decide +kernel
theorem d_Reck_costOfBelief_47 : decode prog_7_method_23_code 47 = .ok (.lsub, 1) := by decide +kernel
theorem d_Reck_costOfBelief_48 : decode prog_7_method_23_code 48 = .ok (.putfield 54, 3) := by decide +kernel
theorem d_Reck_costOfBelief_51 : decode prog_7_method_23_code 51 = .ok (.aload_n 0, 1) := by decide +kernel
theorem d_Reck_costOfBelief_52 : decode prog_7_method_23_code 52 = .ok (.iconst 1, 1) := by decide +kernel
theorem d_Reck_costOfBelief_53 : decode prog_7_method_23_code 53 = .ok (.putfield 40, 3) := by decide +kernel
theorem d_Reck_costOfBelief_56 : decode prog_7_method_23_code 56 = .ok (.aload_n 0, 1) := by decide +kernel
theorem d_Reck_costOfBelief_57 : decode prog_7_method_23_code 57 = .ok (.getfield 54, 3) := by decide +kernel
theorem d_Reck_costOfBelief_60 : decode prog_7_method_23_code 60 = .ok (.lreturn, 1) := by decide +kernel
theorem b_Reck_costOfBelief_0 {d : Nat} {h : am_H} {Q : am_Q} (kt : (h.1 12 10) = 0 → am_W (X_Reck_costOfBelief d) 12 [some (.ref 12), none, none, none, none] [] h Q) (kf : ¬ (h.1 12 10) = 0 → am_W (X_Reck_costOfBelief d) 7 [some (.ref 12), none, none, none, none] [] h Q) : am_W (X_Reck_costOfBelief d) 0 [some (.ref 12), none, none, none, none] [] h Q :=
  am_aload_n d_Reck_costOfBelief_0 rfl (i := 0) rfl <|
    am_getI (ci := 3) (i := 10) rfl rfl rfl (Nat.le_of_ble_eq_true rfl) w_204 d_Reck_costOfBelief_1 <|
    am_if_eq (tgt := 12) d_Reck_costOfBelief_4 (by decide) kt kf
theorem b_Reck_costOfBelief_7 {d : Nat} {h : am_H} {Q : am_Q} (q : Q (some (.long (h.2 12 14))) h) : am_W (X_Reck_costOfBelief d) 7 [some (.ref 12), none, none, none, none] [] h Q :=
  am_aload_n d_Reck_costOfBelief_7 rfl (i := 0) rfl <|
    am_getL (ci := 3) (i := 14) rfl rfl rfl (Nat.le_of_ble_eq_true rfl) w_208 d_Reck_costOfBelief_8 <|
    am_lret rfl d_Reck_costOfBelief_11 q
theorem b_Reck_costOfBelief_12 {d : Nat} {h : am_H} {Q : am_Q} (k : m_Reck_meanByLaw d [.ref 12, .int 0, .int 3] h (fun r hh => am_W (X_Reck_costOfBelief (d + 1)) 18 [some (.ref 12), none, none, none, none] (r.toList ++ []) hh Q)) : am_W (X_Reck_costOfBelief (d + 1)) 12 [some (.ref 12), none, none, none, none] [] h Q :=
  am_aload_n d_Reck_costOfBelief_12 rfl (i := 0) rfl <|
    am_iconst (v := 0) d_Reck_costOfBelief_13 (by decide) <|
    am_iconst (v := 3) d_Reck_costOfBelief_14 (by decide) <|
    am_callV (vs := [.int 0, .int 3]) (st := []) (k := 12) (ci := 3) rfl d_Reck_costOfBelief_15 rfl rfl w_939 w_859 w_860 w_87 w_861 p_Reck_meanByLaw (Nat.le_of_ble_eq_true rfl) (Nat.le_of_ble_eq_true rfl) rfl k
theorem b_Reck_costOfBelief_18 {d : Nat} {y0 : Int64} {h : am_H} {Q : am_Q} (k : m_Reck_forgetLawful d [.ref 12] (am_pI h 12 11 1) (fun r hh => am_W (X_Reck_costOfBelief (d + 1)) 28 [some (.ref 12), some (.long y0), none, none, none] (r.toList ++ []) hh Q)) : am_W (X_Reck_costOfBelief (d + 1)) 18 [some (.ref 12), none, none, none, none] [.long y0] h Q :=
  am_lstore_n (ls' := [some (.ref 12), some (.long y0), none, none, none]) d_Reck_costOfBelief_18 rfl (Nat.le_of_ble_eq_true rfl) rfl <|
    am_aload_n d_Reck_costOfBelief_19 rfl (i := 0) rfl <|
    am_iconst (v := 1) d_Reck_costOfBelief_20 (by decide) <|
    am_putI (ci := 3) (i := 11) rfl rfl rfl (Nat.le_of_ble_eq_true rfl) w_205 rfl (by decide) (by decide) d_Reck_costOfBelief_21 <|
    am_aload_n d_Reck_costOfBelief_24 rfl (i := 0) rfl <|
    am_callV (vs := []) (st := []) (k := 12) (ci := 3) rfl d_Reck_costOfBelief_25 rfl rfl w_419 w_421 w_1 w_87 w_422 p_Reck_forgetLawful (Nat.le_of_ble_eq_true rfl) (Nat.le_of_ble_eq_true rfl) rfl k
theorem b_Reck_costOfBelief_28 {d : Nat} {x1 : Int64} {h : am_H} {Q : am_Q} (k : m_Reck_meanByLaw d [.ref 12, .int 0, .int 3] h (fun r hh => am_W (X_Reck_costOfBelief (d + 1)) 34 [some (.ref 12), some (.long x1), none, none, none] (r.toList ++ []) hh Q)) : am_W (X_Reck_costOfBelief (d + 1)) 28 [some (.ref 12), some (.long x1), none, none, none] [] h Q :=
  am_aload_n d_Reck_costOfBelief_28 rfl (i := 0) rfl <|
    am_iconst (v := 0) d_Reck_costOfBelief_29 (by decide) <|
    am_iconst (v := 3) d_Reck_costOfBelief_30 (by decide) <|
    am_callV (vs := [.int 0, .int 3]) (st := []) (k := 12) (ci := 3) rfl d_Reck_costOfBelief_31 rfl rfl w_939 w_859 w_860 w_87 w_861 p_Reck_meanByLaw (Nat.le_of_ble_eq_true rfl) (Nat.le_of_ble_eq_true rfl) rfl k
theorem b_Reck_costOfBelief_34 {d : Nat} {x1 : Int64} {y0 : Int64} {h : am_H} {Q : am_Q} (k : m_Reck_forgetLawful d [.ref 12] (am_pI h 12 11 0) (fun r hh => am_W (X_Reck_costOfBelief (d + 1)) 44 [some (.ref 12), some (.long x1), none, some (.long y0), none] (r.toList ++ []) hh Q)) : am_W (X_Reck_costOfBelief (d + 1)) 34 [some (.ref 12), some (.long x1), none, none, none] [.long y0] h Q :=
  am_lstore_n (ls' := [some (.ref 12), some (.long x1), none, some (.long y0), none]) d_Reck_costOfBelief_34 rfl (Nat.le_of_ble_eq_true rfl) rfl <|
    am_aload_n d_Reck_costOfBelief_35 rfl (i := 0) rfl <|
    am_iconst (v := 0) d_Reck_costOfBelief_36 (by decide) <|
    am_putI (ci := 3) (i := 11) rfl rfl rfl (Nat.le_of_ble_eq_true rfl) w_205 rfl (by decide) (by decide) d_Reck_costOfBelief_37 <|
    am_aload_n d_Reck_costOfBelief_40 rfl (i := 0) rfl <|
    am_callV (vs := []) (st := []) (k := 12) (ci := 3) rfl d_Reck_costOfBelief_41 rfl rfl w_419 w_421 w_1 w_87 w_422 p_Reck_forgetLawful (Nat.le_of_ble_eq_true rfl) (Nat.le_of_ble_eq_true rfl) rfl k
theorem b_Reck_costOfBelief_44 {d : Nat} {x1 : Int64} {x3 : Int64} {h : am_H} {Q : am_Q} (q : Q (some (.long ((am_pI (am_pL h 12 14 (x1 - x3)) 12 10 1).2 12 14))) (am_pI (am_pL h 12 14 (x1 - x3)) 12 10 1)) : am_W (X_Reck_costOfBelief d) 44 [some (.ref 12), some (.long x1), none, some (.long x3), none] [] h Q :=
  am_aload_n d_Reck_costOfBelief_44 rfl (i := 0) rfl <|
    am_lload_n d_Reck_costOfBelief_45 rfl (i := 1) rfl <|
    am_lload_n d_Reck_costOfBelief_46 rfl (i := 3) rfl <|
    am_lsub d_Reck_costOfBelief_47 <|
    am_putL (ci := 3) (i := 14) rfl rfl rfl (Nat.le_of_ble_eq_true rfl) w_208 rfl rfl rfl d_Reck_costOfBelief_48 <|
    am_aload_n d_Reck_costOfBelief_51 rfl (i := 0) rfl <|
    am_iconst (v := 1) d_Reck_costOfBelief_52 (by decide) <|
    am_putI (ci := 3) (i := 10) rfl rfl rfl (Nat.le_of_ble_eq_true rfl) w_204 rfl (by decide) (by decide) d_Reck_costOfBelief_53 <|
    am_aload_n d_Reck_costOfBelief_56 rfl (i := 0) rfl <|
    am_getL (ci := 3) (i := 14) rfl rfl rfl (Nat.le_of_ble_eq_true rfl) w_208 d_Reck_costOfBelief_57 <|
    am_lret rfl d_Reck_costOfBelief_60 q
theorem t_Reck_costOfBelief_44 {d : Nat} {x1 : Int64} {x3 : Int64} {h : am_H} {Q : am_Q} {res : Int64 × am_H} (e : f_Reck_costOfBelief_44 h x1 x3 = some res) (q : Q (some (.long res.1)) res.2) : am_W (X_Reck_costOfBelief (d + 6)) 44 [some (.ref 12), some (.long x1), none, some (.long x3), none] [] h Q :=
  b_Reck_costOfBelief_44 (d := (d + 6)) (q := (am_rJpi (v := ((am_pI (am_pL h 12 14 (x1 - x3)) 12 10 1).2 12 14)) e q))
theorem t_Reck_costOfBelief_34 {d : Nat} {x1 : Int64} {y0 : Int64} {h : am_H} {Q : am_Q} {res : Int64 × am_H} (e : f_Reck_costOfBelief_34 h x1 y0 = some res) (q : Q (some (.long res.1)) res.2) : am_W (X_Reck_costOfBelief (d + 6)) 34 [some (.ref 12), some (.long x1), none, none, none] [.long y0] h Q :=
  (am_bd e).elim fun p hp => b_Reck_costOfBelief_34 (d := (d + 5)) (k := c_Reck_forgetLawful (d := d + 4) hp.1 (t_Reck_costOfBelief_44 hp.2 q))
theorem t_Reck_costOfBelief_28 {d : Nat} {x1 : Int64} {h : am_H} {Q : am_Q} {res : Int64 × am_H} (e : f_Reck_costOfBelief_28 h x1 = some res) (q : Q (some (.long res.1)) res.2) : am_W (X_Reck_costOfBelief (d + 6)) 28 [some (.ref 12), some (.long x1), none, none, none] [] h Q :=
  (am_bd e).elim fun p hp => b_Reck_costOfBelief_28 (d := (d + 5)) (k := c_Reck_meanByLaw (d := d) hp.1 (t_Reck_costOfBelief_34 hp.2 q))
theorem t_Reck_costOfBelief_18 {d : Nat} {y0 : Int64} {h : am_H} {Q : am_Q} {res : Int64 × am_H} (e : f_Reck_costOfBelief_18 h y0 = some res) (q : Q (some (.long res.1)) res.2) : am_W (X_Reck_costOfBelief (d + 6)) 18 [some (.ref 12), none, none, none, none] [.long y0] h Q :=
  (am_bd e).elim fun p hp => b_Reck_costOfBelief_18 (d := (d + 5)) (k := c_Reck_forgetLawful (d := d + 4) hp.1 (t_Reck_costOfBelief_28 hp.2 q))
theorem t_Reck_costOfBelief_12 {d : Nat} {h : am_H} {Q : am_Q} {res : Int64 × am_H} (e : f_Reck_costOfBelief_12 h = some res) (q : Q (some (.long res.1)) res.2) : am_W (X_Reck_costOfBelief (d + 6)) 12 [some (.ref 12), none, none, none, none] [] h Q :=
  (am_bd e).elim fun p hp => b_Reck_costOfBelief_12 (d := (d + 5)) (k := c_Reck_meanByLaw (d := d) hp.1 (t_Reck_costOfBelief_18 hp.2 q))
theorem t_Reck_costOfBelief_7 {d : Nat} {h : am_H} {Q : am_Q} {res : Int64 × am_H} (e : f_Reck_costOfBelief_7 h = some res) (q : Q (some (.long res.1)) res.2) : am_W (X_Reck_costOfBelief (d + 6)) 7 [some (.ref 12), none, none, none, none] [] h Q :=
  b_Reck_costOfBelief_7 (d := (d + 6)) (q := (am_rJpi (v := (h.2 12 14)) e q))
theorem t_Reck_costOfBelief_0 {d : Nat} {h : am_H} {Q : am_Q} {res : Int64 × am_H} (e : f_Reck_costOfBelief h = some res) (q : Q (some (.long res.1)) res.2) : am_W (X_Reck_costOfBelief (d + 6)) 0 [some (.ref 12), none, none, none, none] [] h Q :=
  b_Reck_costOfBelief_0 (d := (d + 6)) (kt := fun c => (t_Reck_costOfBelief_12 (am_ift e c) q)) (kf := fun c => (t_Reck_costOfBelief_7 (am_ife e c) q))
theorem c_Reck_costOfBelief {d : Nat} {h : am_H} {Q : am_Q} {res : Int64 × am_H} (e : f_Reck_costOfBelief h = some res) (q : Q (some (.long res.1)) res.2) : m_Reck_costOfBelief (d + 6) [.ref 12] h Q :=
  e_Reck_costOfBelief (t_Reck_costOfBelief_0 e q)
theorem d_Club_dream_0 : decode prog_1_method_19_code 0 = .ok (.iload_n 1, 1) := by decide +kernel
theorem d_Club_dream_1 : decode prog_1_method_19_code 1 = .ok (.invokestatic 152, 3) := by decide +kernel
theorem d_Club_dream_4 : decode prog_1_method_19_code 4 = .ok (.ifCond .ne 7, 3) := by decide +kernel
theorem d_Club_dream_7 : decode prog_1_method_19_code 7 = .ok (.ldc2_w 155, 3) := by decide +kernel
theorem d_Club_dream_10 : decode prog_1_method_19_code 10 = .ok (.lreturn, 1) := by decide +kernel
theorem d_Club_dream_11 : decode prog_1_method_19_code 11 = .ok (.aload_n 0, 1) := by decide +kernel
theorem d_Club_dream_12 : decode prog_1_method_19_code 12 = .ok (.getfield 30, 3) := by decide +kernel
theorem d_Club_dream_15 : decode prog_1_method_19_code 15 = .ok (.invokevirtual 239, 3) := by decide +kernel
theorem d_Club_dream_18 : decode prog_1_method_19_code 18 = .ok (.iconst 3, 1) := by decide +kernel
theorem d_Club_dream_19 : decode prog_1_method_19_code 19 = .ok (.invokestatic 200, 3) := by decide +kernel
theorem d_Club_dream_22 : decode prog_1_method_19_code 22 = .ok (.iload_n 1, 1) := by decide +kernel
theorem d_Club_dream_23 : decode prog_1_method_19_code 23 = .ok (.invokestatic 170, 3) := by decide +kernel
theorem d_Club_dream_26 : decode prog_1_method_19_code 26 = .ok (.lreturn, 1) := by decide +kernel
theorem b_Club_dream_0 {d : Nat} {x1 : Int32} {h : am_H} {Q : am_Q} (k : m_Club_isFractionPart d [.int x1] h (fun r hh => am_W (X_Club_dream (d + 1)) 4 [some (.ref 0), some (.int x1)] (r.toList ++ []) hh Q)) : am_W (X_Club_dream (d + 1)) 0 [some (.ref 0), some (.int x1)] [] h Q :=
  am_iload_n d_Club_dream_0 rfl (i := 1) rfl <|
    am_callS (vs := [.int x1]) (st := []) rfl d_Club_dream_1 w_680 w_681 w_83 w_682 p_Club_isFractionPart (Nat.le_of_ble_eq_true rfl) (Nat.le_of_ble_eq_true rfl) rfl k
theorem b_Club_dream_4 {d : Nat} {x1 : Int32} {y0 : Bool} {h : am_H} {Q : am_Q} (kt : ¬ (am_b y0) = 0 → am_W (X_Club_dream d) 11 [some (.ref 0), some (.int x1)] [] h Q) (kf : (am_b y0) = 0 → am_W (X_Club_dream d) 7 [some (.ref 0), some (.int x1)] [] h Q) : am_W (X_Club_dream d) 4 [some (.ref 0), some (.int x1)] [.int (am_b y0)] h Q :=
  am_if_ne (tgt := 11) d_Club_dream_4 (by decide) kt kf
theorem b_Club_dream_7 {d : Nat} {x1 : Int32} {h : am_H} {Q : am_Q} (q : Q (some (.long (-9223372036854775808))) h) : am_W (X_Club_dream d) 7 [some (.ref 0), some (.int x1)] [] h Q :=
  am_ldc2 (v := (-9223372036854775808)) d_Club_dream_7 w_683 <|
    am_lret rfl d_Club_dream_10 q
theorem b_Club_dream_11 {d : Nat} {x1 : Int32} {h : am_H} {Q : am_Q} (k : m_Reck_costOfBelief d [.ref 12] h (fun r hh => am_W (X_Club_dream (d + 1)) 18 [some (.ref 0), some (.int x1)] (r.toList ++ []) hh Q)) : am_W (X_Club_dream (d + 1)) 11 [some (.ref 0), some (.int x1)] [] h Q :=
  am_aload_n d_Club_dream_11 rfl (i := 0) rfl <|
    am_getR (ci := 0) (i := 2) rfl rfl rfl (Nat.le_of_ble_eq_true rfl) w_364 d_Club_dream_12 <|
    am_callV (vs := []) (st := []) (k := 12) (ci := 3) rfl d_Club_dream_15 rfl rfl w_935 w_936 w_937 w_87 w_938 p_Reck_costOfBelief (Nat.le_of_ble_eq_true rfl) (Nat.le_of_ble_eq_true rfl) rfl k
theorem b_Club_dream_18 {d : Nat} {x1 : Int32} {y0 : Int64} {h : am_H} {Q : am_Q} (k : m_Reck_unit d [.int 3] h (fun r hh => am_W (X_Club_dream (d + 1)) 22 [some (.ref 0), some (.int x1)] (r.toList ++ [.long y0]) hh Q)) : am_W (X_Club_dream (d + 1)) 18 [some (.ref 0), some (.int x1)] [.long y0] h Q :=
  am_iconst (v := 3) d_Club_dream_18 (by decide) <|
    am_callS (vs := [.int 3]) (st := [.long y0]) rfl d_Club_dream_19 w_848 w_820 w_87 w_821 p_Reck_unit (Nat.le_of_ble_eq_true rfl) (Nat.le_of_ble_eq_true rfl) rfl k
theorem b_Club_dream_22 {d : Nat} {x1 : Int32} {y1 : Int64} {y0 : Int64} {h : am_H} {Q : am_Q} (k : m_Club_partOf d [.long y0, .long y1, .int x1] h (fun r hh => am_W (X_Club_dream (d + 1)) 26 [some (.ref 0), some (.int x1)] (r.toList ++ []) hh Q)) : am_W (X_Club_dream (d + 1)) 22 [some (.ref 0), some (.int x1)] [.long y1, .long y0] h Q :=
  am_iload_n d_Club_dream_22 rfl (i := 1) rfl <|
    am_callS (vs := [.long y0, .long y1, .int x1]) (st := []) rfl d_Club_dream_23 w_712 w_713 w_83 w_714 p_Club_partOf (Nat.le_of_ble_eq_true rfl) (Nat.le_of_ble_eq_true rfl) rfl k
theorem b_Club_dream_26 {d : Nat} {x1 : Int32} {y0 : Int64} {h : am_H} {Q : am_Q} (q : Q (some (.long y0)) h) : am_W (X_Club_dream d) 26 [some (.ref 0), some (.int x1)] [.long y0] h Q :=
  am_lret rfl d_Club_dream_26 q
theorem t_Club_dream_26 {d : Nat} {x1 : Int32} {y0 : Int64} {h : am_H} {Q : am_Q} {res : Int64 × am_H} (e : f_Club_dream_26 h y0 = some res) (q : Q (some (.long res.1)) res.2) : am_W (X_Club_dream (d + 7)) 26 [some (.ref 0), some (.int x1)] [.long y0] h Q :=
  b_Club_dream_26 (d := (d + 7)) (q := (am_rJpi (v := y0) e q))
theorem t_Club_dream_22 {d : Nat} {x1 : Int32} {y1 : Int64} {y0 : Int64} {h : am_H} {Q : am_Q} {res : Int64 × am_H} (e : f_Club_dream_22 h x1 y1 y0 = some res) (q : Q (some (.long res.1)) res.2) : am_W (X_Club_dream (d + 7)) 22 [some (.ref 0), some (.int x1)] [.long y1, .long y0] h Q :=
  (am_bd e).elim fun p hp => b_Club_dream_22 (d := (d + 6)) (k := c_Club_partOf (d := d + 5) hp.1 (t_Club_dream_26 hp.2 q))
theorem t_Club_dream_18 {d : Nat} {x1 : Int32} {y0 : Int64} {h : am_H} {Q : am_Q} {res : Int64 × am_H} (e : f_Club_dream_18 h x1 y0 = some res) (q : Q (some (.long res.1)) res.2) : am_W (X_Club_dream (d + 7)) 18 [some (.ref 0), some (.int x1)] [.long y0] h Q :=
  (am_bd e).elim fun p hp => b_Club_dream_18 (d := (d + 6)) (k := c_Reck_unit (d := d + 6) hp.1 (t_Club_dream_22 hp.2 q))
theorem t_Club_dream_11 {d : Nat} {x1 : Int32} {h : am_H} {Q : am_Q} {res : Int64 × am_H} (e : f_Club_dream_11 h x1 = some res) (q : Q (some (.long res.1)) res.2) : am_W (X_Club_dream (d + 7)) 11 [some (.ref 0), some (.int x1)] [] h Q :=
  (am_bd e).elim fun p hp => b_Club_dream_11 (d := (d + 6)) (k := c_Reck_costOfBelief (d := d) hp.1 (t_Club_dream_18 hp.2 q))
theorem t_Club_dream_7 {d : Nat} {x1 : Int32} {h : am_H} {Q : am_Q} {res : Int64 × am_H} (e : f_Club_dream_7 h = some res) (q : Q (some (.long res.1)) res.2) : am_W (X_Club_dream (d + 7)) 7 [some (.ref 0), some (.int x1)] [] h Q :=
  b_Club_dream_7 (d := (d + 7)) (q := (am_rJpi (v := (-9223372036854775808)) e q))
theorem t_Club_dream_4 {d : Nat} {x1 : Int32} {y0 : Bool} {h : am_H} {Q : am_Q} {res : Int64 × am_H} (e : f_Club_dream_4 h x1 y0 = some res) (q : Q (some (.long res.1)) res.2) : am_W (X_Club_dream (d + 7)) 4 [some (.ref 0), some (.int x1)] [.int (am_b y0)] h Q :=
  b_Club_dream_4 (d := (d + 7)) (kt := fun c => (t_Club_dream_11 (am_ift e (am_bn c)) q)) (kf := fun c => (t_Club_dream_7 (am_iff e (am_bz c)) q))
theorem t_Club_dream_0 {d : Nat} {x1 : Int32} {h : am_H} {Q : am_Q} {res : Int64 × am_H} (e : f_Club_dream h x1 = some res) (q : Q (some (.long res.1)) res.2) : am_W (X_Club_dream (d + 7)) 0 [some (.ref 0), some (.int x1)] [] h Q :=
  b_Club_dream_0 (d := (d + 6)) (k := c_Club_isFractionPart (d := d + 6) rfl (t_Club_dream_4 e q))
theorem c_Club_dream {d : Nat} {x1 : Int32} {h : am_H} {Q : am_Q} {res : Int64 × am_H} (e : f_Club_dream h x1 = some res) (q : Q (some (.long res.1)) res.2) : m_Club_dream (d + 7) [.ref 0, .int x1] h Q :=
  e_Club_dream (t_Club_dream_0 e q)
theorem d_Club_refuseRound_0 : decode prog_1_method_24_code 0 = .ok (.iload_n 1, 1) := by decide +kernel
theorem d_Club_refuseRound_1 : decode prog_1_method_24_code 1 = .ok (.invokestatic 95, 3) := by decide +kernel
theorem d_Club_refuseRound_4 : decode prog_1_method_24_code 4 = .ok (.ifCond .ne 5, 3) := by decide +kernel
theorem d_Club_refuseRound_7 : decode prog_1_method_24_code 7 = .ok (.iconst (-1), 1) := by decide +kernel
theorem d_Club_refuseRound_8 : decode prog_1_method_24_code 8 = .ok (.ireturn, 1) := by decide +kernel
theorem d_Club_refuseRound_9 : decode prog_1_method_24_code 9 = .ok (.aload_n 0, 1) := by decide +kernel
theorem d_Club_refuseRound_10 : decode prog_1_method_24_code 10 = .ok (.getfield 75, 3) := by decide +kernel
theorem d_Club_refuseRound_13 : decode prog_1_method_24_code 13 = .ok (.iload_n 1, 1) := by decide +kernel
theorem d_Club_refuseRound_14 : decode prog_1_method_24_code 14 = .ok (.aaload, 1) := by decide +kernel
theorem d_Club_refuseRound_15 : decode prog_1_method_24_code 15 = .ok (.invokevirtual 99, 3) := by decide +kernel
theorem d_Club_refuseRound_18 : decode prog_1_method_24_code 18 = .ok (.ifCond .eq 6, 3) := by decide +kernel
theorem d_Club_refuseRound_21 : decode prog_1_method_24_code 21 = .ok (.bipush (-11), 2) := by decide +kernel
theorem d_Club_refuseRound_23 : decode prog_1_method_24_code 23 = .ok (.ireturn, 1) := by decide +kernel
theorem d_Club_refuseRound_24 : decode prog_1_method_24_code 24 = .ok (.aload_n 0, 1) := by decide +kernel
theorem d_Club_refuseRound_25 : decode prog_1_method_24_code 25 = .ok (.getfield 75, 3) := by decide +kernel
theorem d_Club_refuseRound_28 : decode prog_1_method_24_code 28 = .ok (.iload_n 1, 1) := by decide +kernel
theorem d_Club_refuseRound_29 : decode prog_1_method_24_code 29 = .ok (.aaload, 1) := by decide +kernel
theorem d_Club_refuseRound_30 : decode prog_1_method_24_code 30 = .ok (.invokevirtual 102, 3) := by decide +kernel
theorem d_Club_refuseRound_33 : decode prog_1_method_24_code 33 = .ok (.ifCond .eq 7, 3) := by decide +kernel
theorem d_Club_refuseRound_36 : decode prog_1_method_24_code 36 = .ok (.iconst 0, 1) := by decide +kernel
theorem d_Club_refuseRound_37 : decode prog_1_method_24_code 37 = .ok (.goto 5, 3) := by decide +kernel
theorem d_Club_refuseRound_40 : decode prog_1_method_24_code 40 = .ok (.bipush (-12), 2) := by decide +kernel
theorem d_Club_refuseRound_42 : decode prog_1_method_24_code 42 = .ok (.ireturn, 1) := by decide +kernel
theorem b_Club_refuseRound_0 {d : Nat} {x1 : Int32} {h : am_H} {Q : am_Q} (k : m_Club_isShelf d [.int x1] h (fun r hh => am_W (X_Club_refuseRound (d + 1)) 4 [some (.ref 0), some (.int x1)] (r.toList ++ []) hh Q)) : am_W (X_Club_refuseRound (d + 1)) 0 [some (.ref 0), some (.int x1)] [] h Q :=
  am_iload_n d_Club_refuseRound_0 rfl (i := 1) rfl <|
    am_callS (vs := [.int x1]) (st := []) rfl d_Club_refuseRound_1 w_431 w_432 w_83 w_433 p_Club_isShelf (Nat.le_of_ble_eq_true rfl) (Nat.le_of_ble_eq_true rfl) rfl k
theorem b_Club_refuseRound_4 {d : Nat} {x1 : Int32} {y0 : Bool} {h : am_H} {Q : am_Q} (kt : ¬ (am_b y0) = 0 → am_W (X_Club_refuseRound d) 9 [some (.ref 0), some (.int x1)] [] h Q) (kf : (am_b y0) = 0 → am_W (X_Club_refuseRound d) 7 [some (.ref 0), some (.int x1)] [] h Q) : am_W (X_Club_refuseRound d) 4 [some (.ref 0), some (.int x1)] [.int (am_b y0)] h Q :=
  am_if_ne (tgt := 9) d_Club_refuseRound_4 (by decide) kt kf
theorem b_Club_refuseRound_7 {d : Nat} {x1 : Int32} {h : am_H} {Q : am_Q} (q : Q (some (.int (-1))) h) : am_W (X_Club_refuseRound d) 7 [some (.ref 0), some (.int x1)] [] h Q :=
  am_iconst (v := (-1)) d_Club_refuseRound_7 (by decide) <|
    am_iret rfl d_Club_refuseRound_8 q
theorem b_Club_refuseRound_9 {d : Nat} {x1 : Int32} {h : am_H} {Q : am_Q} (q0 : vp_in x1 6) (k : m_Shelf_isEmpty d [.ref (am_shp x1)] h (fun r hh => am_W (X_Club_refuseRound (d + 1)) 18 [some (.ref 0), some (.int x1)] (r.toList ++ []) hh Q)) : am_W (X_Club_refuseRound (d + 1)) 9 [some (.ref 0), some (.int x1)] [] h Q :=
  am_aload_n d_Club_refuseRound_9 rfl (i := 0) rfl <|
    am_getR (ci := 0) (i := 8) rfl rfl rfl (Nat.le_of_ble_eq_true rfl) w_370 d_Club_refuseRound_10 <|
    am_iload_n d_Club_refuseRound_13 rfl (i := 1) rfl <|
    am_aald (q := am_shp x1) rfl q0 (am_shq q0) d_Club_refuseRound_14 <|
    am_callV (vs := []) (st := []) (k := (am_shp x1)) (ci := 9) rfl d_Club_refuseRound_15 rfl (am_shl q0).1 w_434 w_435 w_436 w_93 w_437 p_Shelf_isEmpty (Nat.le_of_ble_eq_true rfl) (Nat.le_of_ble_eq_true rfl) rfl k
theorem b_Club_refuseRound_18 {d : Nat} {x1 : Int32} {y0 : Bool} {h : am_H} {Q : am_Q} (kt : (am_b y0) = 0 → am_W (X_Club_refuseRound d) 24 [some (.ref 0), some (.int x1)] [] h Q) (kf : ¬ (am_b y0) = 0 → am_W (X_Club_refuseRound d) 21 [some (.ref 0), some (.int x1)] [] h Q) : am_W (X_Club_refuseRound d) 18 [some (.ref 0), some (.int x1)] [.int (am_b y0)] h Q :=
  am_if_eq (tgt := 24) d_Club_refuseRound_18 (by decide) kt kf
theorem b_Club_refuseRound_21 {d : Nat} {x1 : Int32} {h : am_H} {Q : am_Q} (q : Q (some (.int (-11))) h) : am_W (X_Club_refuseRound d) 21 [some (.ref 0), some (.int x1)] [] h Q :=
  am_bipush (v := (-11)) d_Club_refuseRound_21 (by decide) <|
    am_iret rfl d_Club_refuseRound_23 q
theorem b_Club_refuseRound_24 {d : Nat} {x1 : Int32} {h : am_H} {Q : am_Q} (q0 : vp_in x1 6) (k : m_Shelf_isByteRow d [.ref (am_shp x1)] h (fun r hh => am_W (X_Club_refuseRound (d + 1)) 33 [some (.ref 0), some (.int x1)] (r.toList ++ []) hh Q)) : am_W (X_Club_refuseRound (d + 1)) 24 [some (.ref 0), some (.int x1)] [] h Q :=
  am_aload_n d_Club_refuseRound_24 rfl (i := 0) rfl <|
    am_getR (ci := 0) (i := 8) rfl rfl rfl (Nat.le_of_ble_eq_true rfl) w_370 d_Club_refuseRound_25 <|
    am_iload_n d_Club_refuseRound_28 rfl (i := 1) rfl <|
    am_aald (q := am_shp x1) rfl q0 (am_shq q0) d_Club_refuseRound_29 <|
    am_callV (vs := []) (st := []) (k := (am_shp x1)) (ci := 9) rfl d_Club_refuseRound_30 rfl (am_shl q0).1 w_438 w_439 w_440 w_93 w_441 p_Shelf_isByteRow (Nat.le_of_ble_eq_true rfl) (Nat.le_of_ble_eq_true rfl) rfl k
theorem b_Club_refuseRound_33 {d : Nat} {x1 : Int32} {y0 : Bool} {h : am_H} {Q : am_Q} (kt : (am_b y0) = 0 → am_W (X_Club_refuseRound d) 40 [some (.ref 0), some (.int x1)] [] h Q) (kf : ¬ (am_b y0) = 0 → am_W (X_Club_refuseRound d) 36 [some (.ref 0), some (.int x1)] [] h Q) : am_W (X_Club_refuseRound d) 33 [some (.ref 0), some (.int x1)] [.int (am_b y0)] h Q :=
  am_if_eq (tgt := 40) d_Club_refuseRound_33 (by decide) kt kf
theorem b_Club_refuseRound_36 {d : Nat} {x1 : Int32} {h : am_H} {Q : am_Q} (q : Q (some (.int 0)) h) : am_W (X_Club_refuseRound d) 36 [some (.ref 0), some (.int x1)] [] h Q :=
  am_iconst (v := 0) d_Club_refuseRound_36 (by decide) <|
    am_goto (tgt := 42) d_Club_refuseRound_37 (by decide) <|
    am_iret rfl d_Club_refuseRound_42 q
theorem b_Club_refuseRound_40 {d : Nat} {x1 : Int32} {h : am_H} {Q : am_Q} (q : Q (some (.int (-12))) h) : am_W (X_Club_refuseRound d) 40 [some (.ref 0), some (.int x1)] [] h Q :=
  am_bipush (v := (-12)) d_Club_refuseRound_40 (by decide) <|
    am_iret rfl d_Club_refuseRound_42 q
theorem t_Club_refuseRound_40 {d : Nat} {x1 : Int32} {h : am_H} {Q : am_Q} {res : Int32} (e : f_Club_refuseRound_40 h = some res) (q : Q (some (.int res)) h) : am_W (X_Club_refuseRound (d + 1)) 40 [some (.ref 0), some (.int x1)] [] h Q :=
  b_Club_refuseRound_40 (d := (d + 1)) (q := (am_rIp (v := (-12)) e q))
theorem t_Club_refuseRound_36 {d : Nat} {x1 : Int32} {h : am_H} {Q : am_Q} {res : Int32} (e : f_Club_refuseRound_36 h = some res) (q : Q (some (.int res)) h) : am_W (X_Club_refuseRound (d + 1)) 36 [some (.ref 0), some (.int x1)] [] h Q :=
  b_Club_refuseRound_36 (d := (d + 1)) (q := (am_rIp (v := 0) e q))
theorem t_Club_refuseRound_33 {d : Nat} {x1 : Int32} {y0 : Bool} {h : am_H} {Q : am_Q} {res : Int32} (e : f_Club_refuseRound_33 h y0 = some res) (q : Q (some (.int res)) h) : am_W (X_Club_refuseRound (d + 1)) 33 [some (.ref 0), some (.int x1)] [.int (am_b y0)] h Q :=
  b_Club_refuseRound_33 (d := (d + 1)) (kt := fun c => (t_Club_refuseRound_40 (am_iff e (am_bz c)) q)) (kf := fun c => (t_Club_refuseRound_36 (am_ift e (am_bn c)) q))
theorem t_Club_refuseRound_24 {d : Nat} {x1 : Int32} {h : am_H} {Q : am_Q} {res : Int32} (e : f_Club_refuseRound_24 h x1 = some res) (q : Q (some (.int res)) h) : am_W (X_Club_refuseRound (d + 1)) 24 [some (.ref 0), some (.int x1)] [] h Q :=
  b_Club_refuseRound_24 (d := d) (q0 := (am_okv (am_gd e))) (k := c_Shelf_isByteRow (d := d) (am_shl (am_okv (am_gd e))) rfl (t_Club_refuseRound_33 (am_ga e) q))
theorem t_Club_refuseRound_21 {d : Nat} {x1 : Int32} {h : am_H} {Q : am_Q} {res : Int32} (e : f_Club_refuseRound_21 h = some res) (q : Q (some (.int res)) h) : am_W (X_Club_refuseRound (d + 1)) 21 [some (.ref 0), some (.int x1)] [] h Q :=
  b_Club_refuseRound_21 (d := (d + 1)) (q := (am_rIp (v := (-11)) e q))
theorem t_Club_refuseRound_18 {d : Nat} {x1 : Int32} {y0 : Bool} {h : am_H} {Q : am_Q} {res : Int32} (e : f_Club_refuseRound_18 h x1 y0 = some res) (q : Q (some (.int res)) h) : am_W (X_Club_refuseRound (d + 1)) 18 [some (.ref 0), some (.int x1)] [.int (am_b y0)] h Q :=
  b_Club_refuseRound_18 (d := (d + 1)) (kt := fun c => (t_Club_refuseRound_24 (am_iff e (am_bz c)) q)) (kf := fun c => (t_Club_refuseRound_21 (am_ift e (am_bn c)) q))
theorem t_Club_refuseRound_9 {d : Nat} {x1 : Int32} {h : am_H} {Q : am_Q} {res : Int32} (e : f_Club_refuseRound_9 h x1 = some res) (q : Q (some (.int res)) h) : am_W (X_Club_refuseRound (d + 1)) 9 [some (.ref 0), some (.int x1)] [] h Q :=
  b_Club_refuseRound_9 (d := d) (q0 := (am_okv (am_gd e))) (k := c_Shelf_isEmpty (d := d) (am_shl (am_okv (am_gd e))) rfl (t_Club_refuseRound_18 (am_ga e) q))
theorem t_Club_refuseRound_7 {d : Nat} {x1 : Int32} {h : am_H} {Q : am_Q} {res : Int32} (e : f_Club_refuseRound_7 h = some res) (q : Q (some (.int res)) h) : am_W (X_Club_refuseRound (d + 1)) 7 [some (.ref 0), some (.int x1)] [] h Q :=
  b_Club_refuseRound_7 (d := (d + 1)) (q := (am_rIp (v := (-1)) e q))
theorem t_Club_refuseRound_4 {d : Nat} {x1 : Int32} {y0 : Bool} {h : am_H} {Q : am_Q} {res : Int32} (e : f_Club_refuseRound_4 h x1 y0 = some res) (q : Q (some (.int res)) h) : am_W (X_Club_refuseRound (d + 1)) 4 [some (.ref 0), some (.int x1)] [.int (am_b y0)] h Q :=
  b_Club_refuseRound_4 (d := (d + 1)) (kt := fun c => (t_Club_refuseRound_9 (am_ift e (am_bn c)) q)) (kf := fun c => (t_Club_refuseRound_7 (am_iff e (am_bz c)) q))
theorem t_Club_refuseRound_0 {d : Nat} {x1 : Int32} {h : am_H} {Q : am_Q} {res : Int32} (e : f_Club_refuseRound h x1 = some res) (q : Q (some (.int res)) h) : am_W (X_Club_refuseRound (d + 1)) 0 [some (.ref 0), some (.int x1)] [] h Q :=
  b_Club_refuseRound_0 (d := d) (k := c_Club_isShelf (d := d) rfl (t_Club_refuseRound_4 e q))
theorem c_Club_refuseRound {d : Nat} {x1 : Int32} {h : am_H} {Q : am_Q} {res : Int32} (e : f_Club_refuseRound h x1 = some res) (q : Q (some (.int res)) h) : m_Club_refuseRound (d + 1) [.ref 0, .int x1] h Q :=
  e_Club_refuseRound (t_Club_refuseRound_0 e q)
theorem d_Rounds_waysToBe_0 : decode prog_8_method_3_code 0 = .ok (.aload_n 0, 1) := by decide +kernel
theorem d_Rounds_waysToBe_1 : decode prog_8_method_3_code 1 = .ok (.getfield 9, 3) := by decide +kernel
theorem d_Rounds_waysToBe_4 : decode prog_8_method_3_code 4 = .ok (.iload_n 1, 1) := by decide +kernel
theorem d_Rounds_waysToBe_5 : decode prog_8_method_3_code 5 = .ok (.invokevirtual 46, 3) := by decide +kernel
theorem d_Rounds_waysToBe_8 : decode prog_8_method_3_code 8 = .ok (.ifCond .eq 26, 3) := by decide +kernel
theorem d_Rounds_waysToBe_11 : decode prog_8_method_3_code 11 = .ok (.iload 4, 2) := by decide +kernel
theorem d_Rounds_waysToBe_13 : decode prog_8_method_3_code 13 = .ok (.invokestatic 49, 3) := by decide +kernel
theorem d_Rounds_waysToBe_16 : decode prog_8_method_3_code 16 = .ok (.ifCond .eq 18, 3) := by decide +kernel
theorem d_Rounds_waysToBe_19 : decode prog_8_method_3_code 19 = .ok (.aload_n 0, 1) := by decide +kernel
theorem d_Rounds_waysToBe_20 : decode prog_8_method_3_code 20 = .ok (.getfield 9, 3) := by decide +kernel
theorem d_Rounds_waysToBe_23 : decode prog_8_method_3_code 23 = .ok (.iload_n 1, 1) := by decide +kernel
theorem d_Rounds_waysToBe_24 : decode prog_8_method_3_code 24 = .ok (.iload_n 2, 1) := by decide +kernel
theorem d_Rounds_waysToBe_25 : decode prog_8_method_3_code 25 = .ok (.iload_n 3, 1) := by decide +kernel
theorem d_Rounds_waysToBe_26 : decode prog_8_method_3_code 26 = .ok (.iload 4, 2) := by decide +kernel
theorem d_Rounds_waysToBe_28 : decode prog_8_method_3_code 28 = .ok (.invokevirtual 52, 3) := by decide +kernel
theorem d_Rounds_waysToBe_31 : decode prog_8_method_3_code 31 = .ok (.goto 4, 3) := by decide +kernel
theorem d_Rounds_waysToBe_34 : decode prog_8_method_3_code 34 = .ok (.iconst 0, 1) := by decide +kernel
theorem d_Rounds_waysToBe_35 : decode prog_8_method_3_code 35 = .ok (.ireturn, 1) := by decide +kernel
theorem b_Rounds_waysToBe_0 {d : Nat} {x1 : Int32} {x2 : Int32} {x3 : Int32} {x4 : Int32} {h : am_H} {Q : am_Q} (k : m_Hole_isOffGreen d [.ref 1, .int x1] h (fun r hh => am_W (X_Rounds_waysToBe (d + 1)) 8 [some (.ref 17), some (.int x1), some (.int x2), some (.int x3), some (.int x4)] (r.toList ++ []) hh Q)) : am_W (X_Rounds_waysToBe (d + 1)) 0 [some (.ref 17), some (.int x1), some (.int x2), some (.int x3), some (.int x4)] [] h Q :=
  am_aload_n d_Rounds_waysToBe_0 rfl (i := 0) rfl <|
    am_getR (ci := 4) (i := 0) rfl rfl rfl (Nat.le_of_ble_eq_true rfl) w_247 d_Rounds_waysToBe_1 <|
    am_iload_n d_Rounds_waysToBe_4 rfl (i := 1) rfl <|
    am_callV (vs := [.int x1]) (st := []) (k := 1) (ci := 1) rfl d_Rounds_waysToBe_5 rfl rfl w_964 w_671 w_672 w_84 w_673 p_Hole_isOffGreen (Nat.le_of_ble_eq_true rfl) (Nat.le_of_ble_eq_true rfl) rfl k
theorem b_Rounds_waysToBe_8 {d : Nat} {x1 : Int32} {x2 : Int32} {x3 : Int32} {x4 : Int32} {y0 : Bool} {h : am_H} {Q : am_Q} (kt : (am_b y0) = 0 → am_W (X_Rounds_waysToBe d) 34 [some (.ref 17), some (.int x1), some (.int x2), some (.int x3), some (.int x4)] [] h Q) (kf : ¬ (am_b y0) = 0 → am_W (X_Rounds_waysToBe d) 11 [some (.ref 17), some (.int x1), some (.int x2), some (.int x3), some (.int x4)] [] h Q) : am_W (X_Rounds_waysToBe d) 8 [some (.ref 17), some (.int x1), some (.int x2), some (.int x3), some (.int x4)] [.int (am_b y0)] h Q :=
  am_if_eq (tgt := 34) d_Rounds_waysToBe_8 (by decide) kt kf
theorem b_Rounds_waysToBe_11 {d : Nat} {x1 : Int32} {x2 : Int32} {x3 : Int32} {x4 : Int32} {h : am_H} {Q : am_Q} (k : m_Hole_isCell d [.int x4] h (fun r hh => am_W (X_Rounds_waysToBe (d + 1)) 16 [some (.ref 17), some (.int x1), some (.int x2), some (.int x3), some (.int x4)] (r.toList ++ []) hh Q)) : am_W (X_Rounds_waysToBe (d + 1)) 11 [some (.ref 17), some (.int x1), some (.int x2), some (.int x3), some (.int x4)] [] h Q :=
  am_iload d_Rounds_waysToBe_11 rfl <|
    am_callS (vs := [.int x4]) (st := []) rfl d_Rounds_waysToBe_13 w_965 w_469 w_84 w_470 p_Hole_isCell (Nat.le_of_ble_eq_true rfl) (Nat.le_of_ble_eq_true rfl) rfl k
theorem b_Rounds_waysToBe_16 {d : Nat} {x1 : Int32} {x2 : Int32} {x3 : Int32} {x4 : Int32} {y0 : Bool} {h : am_H} {Q : am_Q} (kt : (am_b y0) = 0 → am_W (X_Rounds_waysToBe d) 34 [some (.ref 17), some (.int x1), some (.int x2), some (.int x3), some (.int x4)] [] h Q) (kf : ¬ (am_b y0) = 0 → am_W (X_Rounds_waysToBe d) 19 [some (.ref 17), some (.int x1), some (.int x2), some (.int x3), some (.int x4)] [] h Q) : am_W (X_Rounds_waysToBe d) 16 [some (.ref 17), some (.int x1), some (.int x2), some (.int x3), some (.int x4)] [.int (am_b y0)] h Q :=
  am_if_eq (tgt := 34) d_Rounds_waysToBe_16 (by decide) kt kf
theorem b_Rounds_waysToBe_19 {d : Nat} {x1 : Int32} {x2 : Int32} {x3 : Int32} {x4 : Int32} {h : am_H} {Q : am_Q} (k : m_Hole_waysToLie d [.ref 1, .int x1, .int x2, .int x3, .int x4] h (fun r hh => am_W (X_Rounds_waysToBe (d + 1)) 31 [some (.ref 17), some (.int x1), some (.int x2), some (.int x3), some (.int x4)] (r.toList ++ []) hh Q)) : am_W (X_Rounds_waysToBe (d + 1)) 19 [some (.ref 17), some (.int x1), some (.int x2), some (.int x3), some (.int x4)] [] h Q :=
  am_aload_n d_Rounds_waysToBe_19 rfl (i := 0) rfl <|
    am_getR (ci := 4) (i := 0) rfl rfl rfl (Nat.le_of_ble_eq_true rfl) w_247 d_Rounds_waysToBe_20 <|
    am_iload_n d_Rounds_waysToBe_23 rfl (i := 1) rfl <|
    am_iload_n d_Rounds_waysToBe_24 rfl (i := 2) rfl <|
    am_iload_n d_Rounds_waysToBe_25 rfl (i := 3) rfl <|
    am_iload d_Rounds_waysToBe_26 rfl <|
    am_callV (vs := [.int x1, .int x2, .int x3, .int x4]) (st := []) (k := 1) (ci := 1) rfl d_Rounds_waysToBe_28 rfl rfl w_966 w_693 w_694 w_84 w_695 p_Hole_waysToLie (Nat.le_of_ble_eq_true rfl) (Nat.le_of_ble_eq_true rfl) rfl k
theorem b_Rounds_waysToBe_31 {d : Nat} {x1 : Int32} {x2 : Int32} {x3 : Int32} {x4 : Int32} {y0 : Int32} {h : am_H} {Q : am_Q} (q : Q (some (.int y0)) h) : am_W (X_Rounds_waysToBe d) 31 [some (.ref 17), some (.int x1), some (.int x2), some (.int x3), some (.int x4)] [.int y0] h Q :=
  am_goto (tgt := 35) d_Rounds_waysToBe_31 (by decide) <|
    am_iret rfl d_Rounds_waysToBe_35 q
theorem b_Rounds_waysToBe_34 {d : Nat} {x1 : Int32} {x2 : Int32} {x3 : Int32} {x4 : Int32} {h : am_H} {Q : am_Q} (q : Q (some (.int 0)) h) : am_W (X_Rounds_waysToBe d) 34 [some (.ref 17), some (.int x1), some (.int x2), some (.int x3), some (.int x4)] [] h Q :=
  am_iconst (v := 0) d_Rounds_waysToBe_34 (by decide) <|
    am_iret rfl d_Rounds_waysToBe_35 q
theorem t_Rounds_waysToBe_34 {d : Nat} {x1 : Int32} {x2 : Int32} {x3 : Int32} {x4 : Int32} {h : am_H} {Q : am_Q} {res : Int32} (e : f_Rounds_waysToBe_34 h = some res) (q : Q (some (.int res)) h) : am_W (X_Rounds_waysToBe (d + 3)) 34 [some (.ref 17), some (.int x1), some (.int x2), some (.int x3), some (.int x4)] [] h Q :=
  b_Rounds_waysToBe_34 (d := (d + 3)) (q := (am_rIp (v := 0) e q))
theorem t_Rounds_waysToBe_31 {d : Nat} {x1 : Int32} {x2 : Int32} {x3 : Int32} {x4 : Int32} {y0 : Int32} {h : am_H} {Q : am_Q} {res : Int32} (e : f_Rounds_waysToBe_31 h y0 = some res) (q : Q (some (.int res)) h) : am_W (X_Rounds_waysToBe (d + 3)) 31 [some (.ref 17), some (.int x1), some (.int x2), some (.int x3), some (.int x4)] [.int y0] h Q :=
  b_Rounds_waysToBe_31 (d := (d + 3)) (q := (am_rIp (v := y0) e q))
theorem t_Rounds_waysToBe_19 {d : Nat} {x1 : Int32} {x2 : Int32} {x3 : Int32} {x4 : Int32} {h : am_H} {Q : am_Q} {res : Int32} (e : f_Rounds_waysToBe_19 h x1 x2 x3 x4 = some res) (q : Q (some (.int res)) h) : am_W (X_Rounds_waysToBe (d + 3)) 19 [some (.ref 17), some (.int x1), some (.int x2), some (.int x3), some (.int x4)] [] h Q :=
  (am_bd e).elim fun p hp => b_Rounds_waysToBe_19 (d := (d + 2)) (k := c_Hole_waysToLie (d := d) hp.1 (t_Rounds_waysToBe_31 hp.2 q))
theorem t_Rounds_waysToBe_16 {d : Nat} {x1 : Int32} {x2 : Int32} {x3 : Int32} {x4 : Int32} {y0 : Bool} {h : am_H} {Q : am_Q} {res : Int32} (e : f_Rounds_waysToBe_16 h x1 x2 x3 x4 y0 = some res) (q : Q (some (.int res)) h) : am_W (X_Rounds_waysToBe (d + 3)) 16 [some (.ref 17), some (.int x1), some (.int x2), some (.int x3), some (.int x4)] [.int (am_b y0)] h Q :=
  b_Rounds_waysToBe_16 (d := (d + 3)) (kt := fun c => (t_Rounds_waysToBe_34 (am_iff e (am_bz c)) q)) (kf := fun c => (t_Rounds_waysToBe_19 (am_ift e (am_bn c)) q))
theorem t_Rounds_waysToBe_11 {d : Nat} {x1 : Int32} {x2 : Int32} {x3 : Int32} {x4 : Int32} {h : am_H} {Q : am_Q} {res : Int32} (e : f_Rounds_waysToBe_11 h x1 x2 x3 x4 = some res) (q : Q (some (.int res)) h) : am_W (X_Rounds_waysToBe (d + 3)) 11 [some (.ref 17), some (.int x1), some (.int x2), some (.int x3), some (.int x4)] [] h Q :=
  b_Rounds_waysToBe_11 (d := (d + 2)) (k := c_Hole_isCell (d := d + 2) rfl (t_Rounds_waysToBe_16 e q))
theorem t_Rounds_waysToBe_8 {d : Nat} {x1 : Int32} {x2 : Int32} {x3 : Int32} {x4 : Int32} {y0 : Bool} {h : am_H} {Q : am_Q} {res : Int32} (e : f_Rounds_waysToBe_8 h x1 x2 x3 x4 y0 = some res) (q : Q (some (.int res)) h) : am_W (X_Rounds_waysToBe (d + 3)) 8 [some (.ref 17), some (.int x1), some (.int x2), some (.int x3), some (.int x4)] [.int (am_b y0)] h Q :=
  b_Rounds_waysToBe_8 (d := (d + 3)) (kt := fun c => (t_Rounds_waysToBe_34 (am_iff e (am_bz c)) q)) (kf := fun c => (t_Rounds_waysToBe_11 (am_ift e (am_bn c)) q))
theorem t_Rounds_waysToBe_0 {d : Nat} {x1 : Int32} {x2 : Int32} {x3 : Int32} {x4 : Int32} {h : am_H} {Q : am_Q} {res : Int32} (e : f_Rounds_waysToBe h x1 x2 x3 x4 = some res) (q : Q (some (.int res)) h) : am_W (X_Rounds_waysToBe (d + 3)) 0 [some (.ref 17), some (.int x1), some (.int x2), some (.int x3), some (.int x4)] [] h Q :=
  (am_bd e).elim fun p hp => b_Rounds_waysToBe_0 (d := (d + 2)) (k := c_Hole_isOffGreen (d := d) hp.1 (t_Rounds_waysToBe_8 hp.2 q))
theorem c_Rounds_waysToBe {d : Nat} {x1 : Int32} {x2 : Int32} {x3 : Int32} {x4 : Int32} {h : am_H} {Q : am_Q} {res : Int32} (e : f_Rounds_waysToBe h x1 x2 x3 x4 = some res) (q : Q (some (.int res)) h) : m_Rounds_waysToBe (d + 3) [.ref 17, .int x1, .int x2, .int x3, .int x4] h Q :=
  e_Rounds_waysToBe (t_Rounds_waysToBe_0 e q)
theorem d_Shelf_length_0 : decode prog_9_method_11_code 0 = .ok (.aload_n 0, 1) := by decide +kernel
theorem d_Shelf_length_1 : decode prog_9_method_11_code 1 = .ok (.getfield 20, 3) := by decide +kernel
theorem d_Shelf_length_4 : decode prog_9_method_11_code 4 = .ok (.ireturn, 1) := by decide +kernel
theorem b_Shelf_length_0 {d : Nat} {a0 : Nat} {h : am_H} {Q : am_Q} (sa0 : am_shf a0) (q : Q (some (.int (h.1 a0 3))) h) : am_W (X_Shelf_length d) 0 [some (.ref a0)] [] h Q :=
  am_aload_n d_Shelf_length_0 rfl (i := 0) rfl <|
    am_getI (ci := 9) (i := 3) rfl sa0.1 rfl (Nat.le_of_ble_eq_true rfl) w_352 d_Shelf_length_1 <|
    am_iret rfl d_Shelf_length_4 q
theorem t_Shelf_length_0 {d : Nat} {a0 : Nat} {h : am_H} {Q : am_Q} {res : Int32} (sa0 : am_shf a0) (e : f_Shelf_length h a0 = res) (q : Q (some (.int res)) h) : am_W (X_Shelf_length d) 0 [some (.ref a0)] [] h Q :=
  b_Shelf_length_0 (d := d) (sa0 := sa0) (q := (am_rIt (v := (h.1 a0 3)) e q))
theorem c_Shelf_length {d : Nat} {a0 : Nat} {h : am_H} {Q : am_Q} {res : Int32} (sa0 : am_shf a0) (e : f_Shelf_length h a0 = res) (q : Q (some (.int res)) h) : m_Shelf_length d [.ref a0] h Q :=
  e_Shelf_length (t_Shelf_length_0 sa0 e q)
theorem d_Rounds_firstWrong_0 : decode prog_8_method_2_code 0 = .ok (.aload_n 1, 1) := by decide +kernel
theorem d_Rounds_firstWrong_1 : decode prog_8_method_2_code 1 = .ok (.invokevirtual 19, 3) := by decide +kernel
theorem d_Rounds_firstWrong_4 : decode prog_8_method_2_code 4 = .ok (.iconst 3, 1) := by decide +kernel
theorem d_Rounds_firstWrong_5 : decode prog_8_method_2_code 5 = .ok (.idiv, 1) := by decide +kernel
theorem d_Rounds_firstWrong_6 : decode prog_8_method_2_code 6 = .ok (.istore_n 2, 1) := by decide +kernel
theorem d_Rounds_firstWrong_7 : decode prog_8_method_2_code 7 = .ok (.iconst 0, 1) := by decide +kernel
theorem d_Rounds_firstWrong_8 : decode prog_8_method_2_code 8 = .ok (.istore_n 3, 1) := by decide +kernel
theorem d_Rounds_firstWrong_9 : decode prog_8_method_2_code 9 = .ok (.iload_n 3, 1) := by decide +kernel
theorem d_Rounds_firstWrong_10 : decode prog_8_method_2_code 10 = .ok (.iload_n 2, 1) := by decide +kernel
theorem d_Rounds_firstWrong_11 : decode prog_8_method_2_code 11 = .ok (.if_icmp .ge 86, 3) := by decide +kernel
theorem d_Rounds_firstWrong_14 : decode prog_8_method_2_code 14 = .ok (.aload_n 1, 1) := by decide +kernel
theorem d_Rounds_firstWrong_15 : decode prog_8_method_2_code 15 = .ok (.iconst 3, 1) := by decide +kernel
theorem d_Rounds_firstWrong_16 : decode prog_8_method_2_code 16 = .ok (.iload_n 3, 1) := by decide +kernel
theorem d_Rounds_firstWrong_17 : decode prog_8_method_2_code 17 = .ok (.imul, 1) := by decide +kernel
theorem d_Rounds_firstWrong_18 : decode prog_8_method_2_code 18 = .ok (.invokevirtual 25, 3) := by decide +kernel
theorem d_Rounds_firstWrong_21 : decode prog_8_method_2_code 21 = .ok (.l2i, 1) := by decide +kernel
theorem d_Rounds_firstWrong_22 : decode prog_8_method_2_code 22 = .ok (.istore 4, 2) := by decide +kernel
theorem d_Rounds_firstWrong_24 : decode prog_8_method_2_code 24 = .ok (.aload_n 1, 1) := by decide +kernel
theorem d_Rounds_firstWrong_25 : decode prog_8_method_2_code 25 = .ok (.iconst 3, 1) := by decide +kernel
theorem d_Rounds_firstWrong_26 : decode prog_8_method_2_code 26 = .ok (.iload_n 3, 1) := by decide +kernel
theorem d_Rounds_firstWrong_27 : decode prog_8_method_2_code 27 = .ok (.imul, 1) := by decide +kernel
theorem d_Rounds_firstWrong_28 : decode prog_8_method_2_code 28 = .ok (.iconst 1, 1) := by decide +kernel
theorem d_Rounds_firstWrong_29 : decode prog_8_method_2_code 29 = .ok (.iadd, 1) := by decide +kernel
theorem d_Rounds_firstWrong_30 : decode prog_8_method_2_code 30 = .ok (.invokevirtual 25, 3) := by decide +kernel
theorem d_Rounds_firstWrong_33 : decode prog_8_method_2_code 33 = .ok (.l2i, 1) := by decide +kernel
theorem d_Rounds_firstWrong_34 : decode prog_8_method_2_code 34 = .ok (.istore 5, 2) := by decide +kernel
theorem d_Rounds_firstWrong_36 : decode prog_8_method_2_code 36 = .ok (.aload_n 1, 1) := by decide +kernel
theorem d_Rounds_firstWrong_37 : decode prog_8_method_2_code 37 = .ok (.iconst 3, 1) := by decide +kernel
theorem d_Rounds_firstWrong_38 : decode prog_8_method_2_code 38 = .ok (.iload_n 3, 1) := by decide +kernel
theorem d_Rounds_firstWrong_39 : decode prog_8_method_2_code 39 = .ok (.imul, 1) := by decide +kernel
theorem d_Rounds_firstWrong_40 : decode prog_8_method_2_code 40 = .ok (.iconst 2, 1) := by decide +kernel
theorem d_Rounds_firstWrong_41 : decode prog_8_method_2_code 41 = .ok (.iadd, 1) := by decide +kernel
theorem d_Rounds_firstWrong_42 : decode prog_8_method_2_code 42 = .ok (.invokevirtual 25, 3) := by decide +kernel
theorem d_Rounds_firstWrong_45 : decode prog_8_method_2_code 45 = .ok (.l2i, 1) := by decide +kernel
theorem d_Rounds_firstWrong_46 : decode prog_8_method_2_code 46 = .ok (.istore 6, 2) := by decide +kernel
theorem d_Rounds_firstWrong_48 : decode prog_8_method_2_code 48 = .ok (.aload_n 0, 1) := by decide +kernel
theorem d_Rounds_firstWrong_49 : decode prog_8_method_2_code 49 = .ok (.getfield 9, 3) := by decide +kernel
theorem d_Rounds_firstWrong_52 : decode prog_8_method_2_code 52 = .ok (.iload 5, 2) := by decide +kernel
theorem d_Rounds_firstWrong_54 : decode prog_8_method_2_code 54 = .ok (.invokevirtual 29, 3) := by decide +kernel
theorem d_Rounds_firstWrong_57 : decode prog_8_method_2_code 57 = .ok (.ifCond .eq 32, 3) := by decide +kernel
theorem d_Rounds_firstWrong_60 : decode prog_8_method_2_code 60 = .ok (.aload_n 0, 1) := by decide +kernel
theorem d_Rounds_firstWrong_61 : decode prog_8_method_2_code 61 = .ok (.iload 4, 2) := by decide +kernel
theorem d_Rounds_firstWrong_63 : decode prog_8_method_2_code 63 = .ok (.aload_n 0, 1) := by decide +kernel
theorem d_Rounds_firstWrong_64 : decode prog_8_method_2_code 64 = .ok (.getfield 9, 3) := by decide +kernel
theorem d_Rounds_firstWrong_67 : decode prog_8_method_2_code 67 = .ok (.iload 5, 2) := by decide +kernel
theorem d_Rounds_firstWrong_69 : decode prog_8_method_2_code 69 = .ok (.invokevirtual 35, 3) := by decide +kernel
theorem d_Rounds_firstWrong_72 : decode prog_8_method_2_code 72 = .ok (.aload_n 0, 1) := by decide +kernel
theorem d_Rounds_firstWrong_73 : decode prog_8_method_2_code 73 = .ok (.getfield 9, 3) := by decide +kernel
theorem d_Rounds_firstWrong_76 : decode prog_8_method_2_code 76 = .ok (.iload 5, 2) := by decide +kernel
theorem d_Rounds_firstWrong_78 : decode prog_8_method_2_code 78 = .ok (.invokevirtual 39, 3) := by decide +kernel
theorem d_Rounds_firstWrong_81 : decode prog_8_method_2_code 81 = .ok (.iload 6, 2) := by decide +kernel
theorem d_Rounds_firstWrong_83 : decode prog_8_method_2_code 83 = .ok (.invokevirtual 42, 3) := by decide +kernel
theorem d_Rounds_firstWrong_86 : decode prog_8_method_2_code 86 = .ok (.ifCond .ne 5, 3) := by decide +kernel
theorem d_Rounds_firstWrong_89 : decode prog_8_method_2_code 89 = .ok (.iload_n 3, 1) := by decide +kernel
theorem d_Rounds_firstWrong_90 : decode prog_8_method_2_code 90 = .ok (.ireturn, 1) := by decide +kernel
theorem d_Rounds_firstWrong_91 : decode prog_8_method_2_code 91 = .ok (.iinc 3 1, 3) := by decide +kernel
theorem d_Rounds_firstWrong_94 : decode prog_8_method_2_code 94 = .ok (.goto (-85), 3) := by decide +kernel
theorem d_Rounds_firstWrong_97 : decode prog_8_method_2_code 97 = .ok (.aload_n 1, 1) := by decide +kernel
theorem d_Rounds_firstWrong_98 : decode prog_8_method_2_code 98 = .ok (.invokevirtual 19, 3) := by decide +kernel
theorem d_Rounds_firstWrong_101 : decode prog_8_method_2_code 101 = .ok (.iconst 3, 1) := by decide +kernel
theorem d_Rounds_firstWrong_102 : decode prog_8_method_2_code 102 = .ok (.irem, 1) := by decide +kernel
theorem d_Rounds_firstWrong_103 : decode prog_8_method_2_code 103 = .ok (.ifCond .ne 8, 3) := by decide +kernel
theorem d_Rounds_firstWrong_106 : decode prog_8_method_2_code 106 = .ok (.bipush (-2), 2) := by decide +kernel
theorem d_Rounds_firstWrong_108 : decode prog_8_method_2_code 108 = .ok (.goto 4, 3) := by decide +kernel
theorem d_Rounds_firstWrong_111 : decode prog_8_method_2_code 111 = .ok (.iload_n 2, 1) := by decide +kernel
theorem d_Rounds_firstWrong_112 : decode prog_8_method_2_code 112 = .ok (.ireturn, 1) := by decide +kernel
theorem b_Rounds_firstWrong_0 {d : Nat} {a1 : Nat} {h : am_H} {Q : am_Q} (sa1 : am_shf a1) (k : m_Shelf_length d [.ref a1] h (fun r hh => am_W (X_Rounds_firstWrong (d + 1)) 4 [some (.ref 17), some (.ref a1), none, none, none, none, none] (r.toList ++ []) hh Q)) : am_W (X_Rounds_firstWrong (d + 1)) 0 [some (.ref 17), some (.ref a1), none, none, none, none, none] [] h Q :=
  am_aload_n d_Rounds_firstWrong_0 rfl (i := 1) rfl <|
    am_callV (vs := []) (st := []) (k := a1) (ci := 9) rfl d_Rounds_firstWrong_1 rfl sa1.1 w_952 w_953 w_954 w_93 w_955 p_Shelf_length (Nat.le_of_ble_eq_true rfl) (Nat.le_of_ble_eq_true rfl) rfl k
theorem b_Rounds_firstWrong_4 {d : Nat} {a1 : Nat} {y0 : Int32} {h : am_H} {Q : am_Q} (sa1 : am_shf a1) (k : am_W (X_Rounds_firstWrong d) 9 [some (.ref 17), some (.ref a1), some (.int (y0 / 3)), some (.int 0), none, none, none] [] h Q) : am_W (X_Rounds_firstWrong d) 4 [some (.ref 17), some (.ref a1), none, none, none, none, none] [.int y0] h Q :=
  am_iconst (v := 3) d_Rounds_firstWrong_4 (by decide) <|
    am_idiv d_Rounds_firstWrong_5 (by decide) <|
    am_istore_n (ls' := [some (.ref 17), some (.ref a1), some (.int (y0 / 3)), none, none, none, none]) d_Rounds_firstWrong_6 rfl (Nat.le_of_ble_eq_true rfl) rfl <|
    am_iconst (v := 0) d_Rounds_firstWrong_7 (by decide) <|
    am_istore_n (ls' := [some (.ref 17), some (.ref a1), some (.int (y0 / 3)), some (.int 0), none, none, none]) d_Rounds_firstWrong_8 rfl (Nat.le_of_ble_eq_true rfl) rfl <|
    k
theorem b_Rounds_firstWrong_9 {d : Nat} {a1 : Nat} {x2 : Int32} {x3 : Int32} {h : am_H} {Q : am_Q} (sa1 : am_shf a1) (kt : x2 ≤ x3 → am_W (X_Rounds_firstWrong d) 97 [some (.ref 17), some (.ref a1), some (.int x2), some (.int x3), none, none, none] [] h Q) (kf : ¬ x2 ≤ x3 → am_W (X_Rounds_firstWrong d) 14 [some (.ref 17), some (.ref a1), some (.int x2), some (.int x3), none, none, none] [] h Q) : am_W (X_Rounds_firstWrong d) 9 [some (.ref 17), some (.ref a1), some (.int x2), some (.int x3), none, none, none] [] h Q :=
  am_iload_n d_Rounds_firstWrong_9 rfl (i := 3) rfl <|
    am_iload_n d_Rounds_firstWrong_10 rfl (i := 2) rfl <|
    am_icmp_ge (tgt := 97) d_Rounds_firstWrong_11 (by decide) kt kf
theorem b_Rounds_firstWrong_14 {d : Nat} {a1 : Nat} {x2 : Int32} {x3 : Int32} {h : am_H} {Q : am_Q} (sa1 : am_shf a1) (k : m_Shelf_read d [.ref a1, .int (3 * x3)] h (fun r hh => am_W (X_Rounds_firstWrong (d + 1)) 21 [some (.ref 17), some (.ref a1), some (.int x2), some (.int x3), none, none, none] (r.toList ++ []) hh Q)) : am_W (X_Rounds_firstWrong (d + 1)) 14 [some (.ref 17), some (.ref a1), some (.int x2), some (.int x3), none, none, none] [] h Q :=
  am_aload_n d_Rounds_firstWrong_14 rfl (i := 1) rfl <|
    am_iconst (v := 3) d_Rounds_firstWrong_15 (by decide) <|
    am_iload_n d_Rounds_firstWrong_16 rfl (i := 3) rfl <|
    am_imul d_Rounds_firstWrong_17 <|
    am_callV (vs := [.int (3 * x3)]) (st := []) (k := a1) (ci := 9) rfl d_Rounds_firstWrong_18 rfl sa1.1 w_956 w_452 w_453 w_93 w_454 p_Shelf_read (Nat.le_of_ble_eq_true rfl) (Nat.le_of_ble_eq_true rfl) rfl k
theorem b_Rounds_firstWrong_21 {d : Nat} {a1 : Nat} {x2 : Int32} {x3 : Int32} {y0 : Int64} {h : am_H} {Q : am_Q} (sa1 : am_shf a1) (k : m_Shelf_read d [.ref a1, .int ((3 * x3) + 1)] h (fun r hh => am_W (X_Rounds_firstWrong (d + 1)) 33 [some (.ref 17), some (.ref a1), some (.int x2), some (.int x3), some (.int y0.toInt32), none, none] (r.toList ++ []) hh Q)) : am_W (X_Rounds_firstWrong (d + 1)) 21 [some (.ref 17), some (.ref a1), some (.int x2), some (.int x3), none, none, none] [.long y0] h Q :=
  am_l2i d_Rounds_firstWrong_21 <|
    am_istore (ls' := [some (.ref 17), some (.ref a1), some (.int x2), some (.int x3), some (.int y0.toInt32), none, none]) d_Rounds_firstWrong_22 (Nat.le_of_ble_eq_true rfl) rfl <|
    am_aload_n d_Rounds_firstWrong_24 rfl (i := 1) rfl <|
    am_iconst (v := 3) d_Rounds_firstWrong_25 (by decide) <|
    am_iload_n d_Rounds_firstWrong_26 rfl (i := 3) rfl <|
    am_imul d_Rounds_firstWrong_27 <|
    am_iconst (v := 1) d_Rounds_firstWrong_28 (by decide) <|
    am_iadd d_Rounds_firstWrong_29 <|
    am_callV (vs := [.int ((3 * x3) + 1)]) (st := []) (k := a1) (ci := 9) rfl d_Rounds_firstWrong_30 rfl sa1.1 w_956 w_452 w_453 w_93 w_454 p_Shelf_read (Nat.le_of_ble_eq_true rfl) (Nat.le_of_ble_eq_true rfl) rfl k
theorem b_Rounds_firstWrong_33 {d : Nat} {a1 : Nat} {x2 : Int32} {x3 : Int32} {x4 : Int32} {y0 : Int64} {h : am_H} {Q : am_Q} (sa1 : am_shf a1) (k : m_Shelf_read d [.ref a1, .int ((3 * x3) + 2)] h (fun r hh => am_W (X_Rounds_firstWrong (d + 1)) 45 [some (.ref 17), some (.ref a1), some (.int x2), some (.int x3), some (.int x4), some (.int y0.toInt32), none] (r.toList ++ []) hh Q)) : am_W (X_Rounds_firstWrong (d + 1)) 33 [some (.ref 17), some (.ref a1), some (.int x2), some (.int x3), some (.int x4), none, none] [.long y0] h Q :=
  am_l2i d_Rounds_firstWrong_33 <|
    am_istore (ls' := [some (.ref 17), some (.ref a1), some (.int x2), some (.int x3), some (.int x4), some (.int y0.toInt32), none]) d_Rounds_firstWrong_34 (Nat.le_of_ble_eq_true rfl) rfl <|
    am_aload_n d_Rounds_firstWrong_36 rfl (i := 1) rfl <|
    am_iconst (v := 3) d_Rounds_firstWrong_37 (by decide) <|
    am_iload_n d_Rounds_firstWrong_38 rfl (i := 3) rfl <|
    am_imul d_Rounds_firstWrong_39 <|
    am_iconst (v := 2) d_Rounds_firstWrong_40 (by decide) <|
    am_iadd d_Rounds_firstWrong_41 <|
    am_callV (vs := [.int ((3 * x3) + 2)]) (st := []) (k := a1) (ci := 9) rfl d_Rounds_firstWrong_42 rfl sa1.1 w_956 w_452 w_453 w_93 w_454 p_Shelf_read (Nat.le_of_ble_eq_true rfl) (Nat.le_of_ble_eq_true rfl) rfl k
theorem b_Rounds_firstWrong_45 {d : Nat} {a1 : Nat} {x2 : Int32} {x3 : Int32} {x4 : Int32} {x5 : Int32} {y0 : Int64} {h : am_H} {Q : am_Q} (sa1 : am_shf a1) (k : m_Hole_hasClub d [.ref 1, .int x5] h (fun r hh => am_W (X_Rounds_firstWrong (d + 1)) 57 [some (.ref 17), some (.ref a1), some (.int x2), some (.int x3), some (.int x4), some (.int x5), some (.int y0.toInt32)] (r.toList ++ []) hh Q)) : am_W (X_Rounds_firstWrong (d + 1)) 45 [some (.ref 17), some (.ref a1), some (.int x2), some (.int x3), some (.int x4), some (.int x5), none] [.long y0] h Q :=
  am_l2i d_Rounds_firstWrong_45 <|
    am_istore (ls' := [some (.ref 17), some (.ref a1), some (.int x2), some (.int x3), some (.int x4), some (.int x5), some (.int y0.toInt32)]) d_Rounds_firstWrong_46 (Nat.le_of_ble_eq_true rfl) rfl <|
    am_aload_n d_Rounds_firstWrong_48 rfl (i := 0) rfl <|
    am_getR (ci := 4) (i := 0) rfl rfl rfl (Nat.le_of_ble_eq_true rfl) w_247 d_Rounds_firstWrong_49 <|
    am_iload d_Rounds_firstWrong_52 rfl <|
    am_callV (vs := [.int x5]) (st := []) (k := 1) (ci := 1) rfl d_Rounds_firstWrong_54 rfl rfl w_957 w_472 w_473 w_84 w_474 p_Hole_hasClub (Nat.le_of_ble_eq_true rfl) (Nat.le_of_ble_eq_true rfl) rfl k
theorem b_Rounds_firstWrong_57 {d : Nat} {a1 : Nat} {x2 : Int32} {x3 : Int32} {x4 : Int32} {x5 : Int32} {x6 : Int32} {y0 : Bool} {h : am_H} {Q : am_Q} (sa1 : am_shf a1) (kt : (am_b y0) = 0 → am_W (X_Rounds_firstWrong d) 89 [some (.ref 17), some (.ref a1), some (.int x2), some (.int x3), some (.int x4), some (.int x5), some (.int x6)] [] h Q) (kf : ¬ (am_b y0) = 0 → am_W (X_Rounds_firstWrong d) 60 [some (.ref 17), some (.ref a1), some (.int x2), some (.int x3), some (.int x4), some (.int x5), some (.int x6)] [] h Q) : am_W (X_Rounds_firstWrong d) 57 [some (.ref 17), some (.ref a1), some (.int x2), some (.int x3), some (.int x4), some (.int x5), some (.int x6)] [.int (am_b y0)] h Q :=
  am_if_eq (tgt := 89) d_Rounds_firstWrong_57 (by decide) kt kf
theorem b_Rounds_firstWrong_60 {d : Nat} {a1 : Nat} {x2 : Int32} {x3 : Int32} {x4 : Int32} {x5 : Int32} {x6 : Int32} {h : am_H} {Q : am_Q} (sa1 : am_shf a1) (k : m_Hole_carryOf d [.ref 1, .int x5] h (fun r hh => am_W (X_Rounds_firstWrong (d + 1)) 72 [some (.ref 17), some (.ref a1), some (.int x2), some (.int x3), some (.int x4), some (.int x5), some (.int x6)] (r.toList ++ [.int x4, .ref 17]) hh Q)) : am_W (X_Rounds_firstWrong (d + 1)) 60 [some (.ref 17), some (.ref a1), some (.int x2), some (.int x3), some (.int x4), some (.int x5), some (.int x6)] [] h Q :=
  am_aload_n d_Rounds_firstWrong_60 rfl (i := 0) rfl <|
    am_iload d_Rounds_firstWrong_61 rfl <|
    am_aload_n d_Rounds_firstWrong_63 rfl (i := 0) rfl <|
    am_getR (ci := 4) (i := 0) rfl rfl rfl (Nat.le_of_ble_eq_true rfl) w_247 d_Rounds_firstWrong_64 <|
    am_iload d_Rounds_firstWrong_67 rfl <|
    am_callV (vs := [.int x5]) (st := [.int x4, .ref 17]) (k := 1) (ci := 1) rfl d_Rounds_firstWrong_69 rfl rfl w_958 w_685 w_686 w_84 w_687 p_Hole_carryOf (Nat.le_of_ble_eq_true rfl) (Nat.le_of_ble_eq_true rfl) rfl k
theorem b_Rounds_firstWrong_72 {d : Nat} {a1 : Nat} {x2 : Int32} {x3 : Int32} {x4 : Int32} {x5 : Int32} {x6 : Int32} {y2 : Int32} {y1 : Int32} {h : am_H} {Q : am_Q} (sa1 : am_shf a1) (k : m_Hole_spreadOf d [.ref 1, .int x5] h (fun r hh => am_W (X_Rounds_firstWrong (d + 1)) 81 [some (.ref 17), some (.ref a1), some (.int x2), some (.int x3), some (.int x4), some (.int x5), some (.int x6)] (r.toList ++ [.int y2, .int y1, .ref 17]) hh Q)) : am_W (X_Rounds_firstWrong (d + 1)) 72 [some (.ref 17), some (.ref a1), some (.int x2), some (.int x3), some (.int x4), some (.int x5), some (.int x6)] [.int y2, .int y1, .ref 17] h Q :=
  am_aload_n d_Rounds_firstWrong_72 rfl (i := 0) rfl <|
    am_getR (ci := 4) (i := 0) rfl rfl rfl (Nat.le_of_ble_eq_true rfl) w_247 d_Rounds_firstWrong_73 <|
    am_iload d_Rounds_firstWrong_76 rfl <|
    am_callV (vs := [.int x5]) (st := [.int y2, .int y1, .ref 17]) (k := 1) (ci := 1) rfl d_Rounds_firstWrong_78 rfl rfl w_959 w_689 w_690 w_84 w_691 p_Hole_spreadOf (Nat.le_of_ble_eq_true rfl) (Nat.le_of_ble_eq_true rfl) rfl k
theorem b_Rounds_firstWrong_81 {d : Nat} {a1 : Nat} {x2 : Int32} {x3 : Int32} {x4 : Int32} {x5 : Int32} {x6 : Int32} {y3 : Int32} {y2 : Int32} {y1 : Int32} {h : am_H} {Q : am_Q} (sa1 : am_shf a1) (k : m_Rounds_waysToBe d [.ref 17, .int y1, .int y2, .int y3, .int x6] h (fun r hh => am_W (X_Rounds_firstWrong (d + 1)) 86 [some (.ref 17), some (.ref a1), some (.int x2), some (.int x3), some (.int x4), some (.int x5), some (.int x6)] (r.toList ++ []) hh Q)) : am_W (X_Rounds_firstWrong (d + 1)) 81 [some (.ref 17), some (.ref a1), some (.int x2), some (.int x3), some (.int x4), some (.int x5), some (.int x6)] [.int y3, .int y2, .int y1, .ref 17] h Q :=
  am_iload d_Rounds_firstWrong_81 rfl <|
    am_callV (vs := [.int y1, .int y2, .int y3, .int x6]) (st := []) (k := 17) (ci := 4) rfl d_Rounds_firstWrong_83 rfl rfl w_960 w_962 w_24 w_88 w_963 p_Rounds_waysToBe (Nat.le_of_ble_eq_true rfl) (Nat.le_of_ble_eq_true rfl) rfl k
theorem b_Rounds_firstWrong_86 {d : Nat} {a1 : Nat} {x2 : Int32} {x3 : Int32} {x4 : Int32} {x5 : Int32} {x6 : Int32} {y0 : Int32} {h : am_H} {Q : am_Q} (sa1 : am_shf a1) (kt : ¬ y0 = 0 → am_W (X_Rounds_firstWrong d) 91 [some (.ref 17), some (.ref a1), some (.int x2), some (.int x3), some (.int x4), some (.int x5), some (.int x6)] [] h Q) (kf : y0 = 0 → am_W (X_Rounds_firstWrong d) 89 [some (.ref 17), some (.ref a1), some (.int x2), some (.int x3), some (.int x4), some (.int x5), some (.int x6)] [] h Q) : am_W (X_Rounds_firstWrong d) 86 [some (.ref 17), some (.ref a1), some (.int x2), some (.int x3), some (.int x4), some (.int x5), some (.int x6)] [.int y0] h Q :=
  am_if_ne (tgt := 91) d_Rounds_firstWrong_86 (by decide) kt kf
theorem b_Rounds_firstWrong_89 {d : Nat} {a1 : Nat} {x2 : Int32} {x3 : Int32} {x4 : Int32} {x5 : Int32} {x6 : Int32} {h : am_H} {Q : am_Q} (sa1 : am_shf a1) (q : Q (some (.int x3)) h) : am_W (X_Rounds_firstWrong d) 89 [some (.ref 17), some (.ref a1), some (.int x2), some (.int x3), some (.int x4), some (.int x5), some (.int x6)] [] h Q :=
  am_iload_n d_Rounds_firstWrong_89 rfl (i := 3) rfl <|
    am_iret rfl d_Rounds_firstWrong_90 q
theorem b_Rounds_firstWrong_91 {d : Nat} {a1 : Nat} {x2 : Int32} {x3 : Int32} {x4 : Int32} {x5 : Int32} {x6 : Int32} {h : am_H} {Q : am_Q} (sa1 : am_shf a1) (k : am_W (X_Rounds_firstWrong d) 9 [some (.ref 17), some (.ref a1), some (.int x2), some (.int (x3 + 1)), some (.int x4), some (.int x5), some (.int x6)] [] h Q) : am_W (X_Rounds_firstWrong d) 91 [some (.ref 17), some (.ref a1), some (.int x2), some (.int x3), some (.int x4), some (.int x5), some (.int x6)] [] h Q :=
  am_iinc (v := (x3 + 1)) (ls' := [some (.ref 17), some (.ref a1), some (.int x2), some (.int (x3 + 1)), some (.int x4), some (.int x5), some (.int x6)]) d_Rounds_firstWrong_91 rfl rfl (Nat.le_of_ble_eq_true rfl) rfl <|
    am_goto (tgt := 9) d_Rounds_firstWrong_94 (by decide) k
theorem b_Rounds_firstWrong_97 {d : Nat} {a1 : Nat} {x2 : Int32} {x3 : Int32} {h : am_H} {Q : am_Q} (sa1 : am_shf a1) (k : m_Shelf_length d [.ref a1] h (fun r hh => am_W (X_Rounds_firstWrong (d + 1)) 101 [some (.ref 17), some (.ref a1), some (.int x2), some (.int x3), none, none, none] (r.toList ++ []) hh Q)) : am_W (X_Rounds_firstWrong (d + 1)) 97 [some (.ref 17), some (.ref a1), some (.int x2), some (.int x3), none, none, none] [] h Q :=
  am_aload_n d_Rounds_firstWrong_97 rfl (i := 1) rfl <|
    am_callV (vs := []) (st := []) (k := a1) (ci := 9) rfl d_Rounds_firstWrong_98 rfl sa1.1 w_952 w_953 w_954 w_93 w_955 p_Shelf_length (Nat.le_of_ble_eq_true rfl) (Nat.le_of_ble_eq_true rfl) rfl k
theorem b_Rounds_firstWrong_101 {d : Nat} {a1 : Nat} {x2 : Int32} {x3 : Int32} {y0 : Int32} {h : am_H} {Q : am_Q} (sa1 : am_shf a1) (kt : ¬ (y0 - y0 / 3 * 3) = 0 → am_W (X_Rounds_firstWrong d) 111 [some (.ref 17), some (.ref a1), some (.int x2), some (.int x3), none, none, none] [] h Q) (kf : (y0 - y0 / 3 * 3) = 0 → am_W (X_Rounds_firstWrong d) 106 [some (.ref 17), some (.ref a1), some (.int x2), some (.int x3), none, none, none] [] h Q) : am_W (X_Rounds_firstWrong d) 101 [some (.ref 17), some (.ref a1), some (.int x2), some (.int x3), none, none, none] [.int y0] h Q :=
  am_iconst (v := 3) d_Rounds_firstWrong_101 (by decide) <|
    am_irem d_Rounds_firstWrong_102 (by decide) <|
    am_if_ne (tgt := 111) d_Rounds_firstWrong_103 (by decide) kt kf
theorem b_Rounds_firstWrong_106 {d : Nat} {a1 : Nat} {x2 : Int32} {x3 : Int32} {h : am_H} {Q : am_Q} (sa1 : am_shf a1) (q : Q (some (.int (-2))) h) : am_W (X_Rounds_firstWrong d) 106 [some (.ref 17), some (.ref a1), some (.int x2), some (.int x3), none, none, none] [] h Q :=
  am_bipush (v := (-2)) d_Rounds_firstWrong_106 (by decide) <|
    am_goto (tgt := 112) d_Rounds_firstWrong_108 (by decide) <|
    am_iret rfl d_Rounds_firstWrong_112 q
theorem b_Rounds_firstWrong_111 {d : Nat} {a1 : Nat} {x2 : Int32} {x3 : Int32} {h : am_H} {Q : am_Q} (sa1 : am_shf a1) (q : Q (some (.int x2)) h) : am_W (X_Rounds_firstWrong d) 111 [some (.ref 17), some (.ref a1), some (.int x2), some (.int x3), none, none, none] [] h Q :=
  am_iload_n d_Rounds_firstWrong_111 rfl (i := 2) rfl <|
    am_iret rfl d_Rounds_firstWrong_112 q
theorem t_Rounds_firstWrong_111 {d : Nat} {a1 : Nat} {x2 : Int32} {x3 : Int32} {h : am_H} {Q : am_Q} {res : Int32} (sa1 : am_shf a1) (e : f_Rounds_firstWrong_111 h x2 = some res) (q : Q (some (.int res)) h) : am_W (X_Rounds_firstWrong (d + 4)) 111 [some (.ref 17), some (.ref a1), some (.int x2), some (.int x3), none, none, none] [] h Q :=
  b_Rounds_firstWrong_111 (d := (d + 4)) (sa1 := sa1) (q := (am_rIp (v := x2) e q))
theorem t_Rounds_firstWrong_106 {d : Nat} {a1 : Nat} {x2 : Int32} {x3 : Int32} {h : am_H} {Q : am_Q} {res : Int32} (sa1 : am_shf a1) (e : f_Rounds_firstWrong_106 h = some res) (q : Q (some (.int res)) h) : am_W (X_Rounds_firstWrong (d + 4)) 106 [some (.ref 17), some (.ref a1), some (.int x2), some (.int x3), none, none, none] [] h Q :=
  b_Rounds_firstWrong_106 (d := (d + 4)) (sa1 := sa1) (q := (am_rIp (v := (-2)) e q))
theorem t_Rounds_firstWrong_101 {d : Nat} {a1 : Nat} {x2 : Int32} {x3 : Int32} {y0 : Int32} {h : am_H} {Q : am_Q} {res : Int32} (sa1 : am_shf a1) (e : f_Rounds_firstWrong_101 h x2 y0 = some res) (q : Q (some (.int res)) h) : am_W (X_Rounds_firstWrong (d + 4)) 101 [some (.ref 17), some (.ref a1), some (.int x2), some (.int x3), none, none, none] [.int y0] h Q :=
  b_Rounds_firstWrong_101 (d := (d + 4)) (sa1 := sa1) (kt := fun c => (t_Rounds_firstWrong_111 sa1 (am_ife e c) q)) (kf := fun c => (t_Rounds_firstWrong_106 sa1 (am_ift e c) q))
theorem t_Rounds_firstWrong_97 {d : Nat} {a1 : Nat} {x2 : Int32} {x3 : Int32} {h : am_H} {Q : am_Q} {res : Int32} (sa1 : am_shf a1) (e : f_Rounds_firstWrong_97 h a1 x2 = some res) (q : Q (some (.int res)) h) : am_W (X_Rounds_firstWrong (d + 4)) 97 [some (.ref 17), some (.ref a1), some (.int x2), some (.int x3), none, none, none] [] h Q :=
  b_Rounds_firstWrong_97 (d := (d + 3)) (sa1 := sa1) (k := c_Shelf_length (d := d + 3) sa1 rfl (t_Rounds_firstWrong_101 sa1 e q))
theorem t_Rounds_firstWrong_89 {d : Nat} {a1 : Nat} {x2 : Int32} {x3 : Int32} {x4 : Int32} {x5 : Int32} {x6 : Int32} {h : am_H} {Q : am_Q} {res : Int32} (sa1 : am_shf a1) (e : f_Rounds_firstWrong_89 h x3 = some res) (q : Q (some (.int res)) h) : am_W (X_Rounds_firstWrong (d + 4)) 89 [some (.ref 17), some (.ref a1), some (.int x2), some (.int x3), some (.int x4), some (.int x5), some (.int x6)] [] h Q :=
  b_Rounds_firstWrong_89 (d := (d + 4)) (sa1 := sa1) (q := (am_rIp (v := x3) e q))
theorem t_Rounds_firstWrong_91 {d : Nat} {k9 : Nat → Int32 → Int32 → Option (Int32)} {a1 : Nat} {x2 : Int32} {x3 : Int32} {x4 : Int32} {x5 : Int32} {x6 : Int32} {h : am_H} {Q : am_Q} {res : Int32} (hk9 : ∀ (a1 : Nat) (x2 : Int32) (x3 : Int32), am_shf a1 → k9 a1 x2 x3 = some res → am_W (X_Rounds_firstWrong (d + 4)) 9 [some (.ref 17), some (.ref a1), some (.int x2), some (.int x3), none, none, none] [] h Q) (sa1 : am_shf a1) (e : f_Rounds_firstWrong_91 k9 h a1 x2 x3 = some res) (q : Q (some (.int res)) h) : am_W (X_Rounds_firstWrong (d + 4)) 91 [some (.ref 17), some (.ref a1), some (.int x2), some (.int x3), some (.int x4), some (.int x5), some (.int x6)] [] h Q :=
  b_Rounds_firstWrong_91 (d := (d + 4)) (sa1 := sa1) (k := (am_wk2 (hk9 _ _ _ sa1 e) ⟨rfl, ⟨rfl, ⟨rfl, ⟨rfl, trivial⟩⟩⟩⟩))
theorem t_Rounds_firstWrong_86 {d : Nat} {k9 : Nat → Int32 → Int32 → Option (Int32)} {a1 : Nat} {x2 : Int32} {x3 : Int32} {x4 : Int32} {x5 : Int32} {x6 : Int32} {y0 : Int32} {h : am_H} {Q : am_Q} {res : Int32} (hk9 : ∀ (a1 : Nat) (x2 : Int32) (x3 : Int32), am_shf a1 → k9 a1 x2 x3 = some res → am_W (X_Rounds_firstWrong (d + 4)) 9 [some (.ref 17), some (.ref a1), some (.int x2), some (.int x3), none, none, none] [] h Q) (sa1 : am_shf a1) (e : f_Rounds_firstWrong_86 k9 h a1 x2 x3 y0 = some res) (q : Q (some (.int res)) h) : am_W (X_Rounds_firstWrong (d + 4)) 86 [some (.ref 17), some (.ref a1), some (.int x2), some (.int x3), some (.int x4), some (.int x5), some (.int x6)] [.int y0] h Q :=
  b_Rounds_firstWrong_86 (d := (d + 4)) (sa1 := sa1) (kt := fun c => (t_Rounds_firstWrong_91 hk9 sa1 (am_ife e c) q)) (kf := fun c => (t_Rounds_firstWrong_89 sa1 (am_ift e c) q))
theorem t_Rounds_firstWrong_81 {d : Nat} {k9 : Nat → Int32 → Int32 → Option (Int32)} {a1 : Nat} {x2 : Int32} {x3 : Int32} {x4 : Int32} {x5 : Int32} {x6 : Int32} {y3 : Int32} {y2 : Int32} {y1 : Int32} {h : am_H} {Q : am_Q} {res : Int32} (hk9 : ∀ (a1 : Nat) (x2 : Int32) (x3 : Int32), am_shf a1 → k9 a1 x2 x3 = some res → am_W (X_Rounds_firstWrong (d + 4)) 9 [some (.ref 17), some (.ref a1), some (.int x2), some (.int x3), none, none, none] [] h Q) (sa1 : am_shf a1) (e : f_Rounds_firstWrong_81 k9 h a1 x2 x3 x6 y3 y2 y1 = some res) (q : Q (some (.int res)) h) : am_W (X_Rounds_firstWrong (d + 4)) 81 [some (.ref 17), some (.ref a1), some (.int x2), some (.int x3), some (.int x4), some (.int x5), some (.int x6)] [.int y3, .int y2, .int y1, .ref 17] h Q :=
  (am_bd e).elim fun p hp => b_Rounds_firstWrong_81 (d := (d + 3)) (sa1 := sa1) (k := c_Rounds_waysToBe (d := d) hp.1 (t_Rounds_firstWrong_86 hk9 sa1 hp.2 q))
theorem t_Rounds_firstWrong_72 {d : Nat} {k9 : Nat → Int32 → Int32 → Option (Int32)} {a1 : Nat} {x2 : Int32} {x3 : Int32} {x4 : Int32} {x5 : Int32} {x6 : Int32} {y2 : Int32} {y1 : Int32} {h : am_H} {Q : am_Q} {res : Int32} (hk9 : ∀ (a1 : Nat) (x2 : Int32) (x3 : Int32), am_shf a1 → k9 a1 x2 x3 = some res → am_W (X_Rounds_firstWrong (d + 4)) 9 [some (.ref 17), some (.ref a1), some (.int x2), some (.int x3), none, none, none] [] h Q) (sa1 : am_shf a1) (e : f_Rounds_firstWrong_72 k9 h a1 x2 x3 x5 x6 y2 y1 = some res) (q : Q (some (.int res)) h) : am_W (X_Rounds_firstWrong (d + 4)) 72 [some (.ref 17), some (.ref a1), some (.int x2), some (.int x3), some (.int x4), some (.int x5), some (.int x6)] [.int y2, .int y1, .ref 17] h Q :=
  (am_bd e).elim fun p hp => b_Rounds_firstWrong_72 (d := (d + 3)) (sa1 := sa1) (k := c_Hole_spreadOf (d := d + 2) hp.1 (t_Rounds_firstWrong_81 hk9 sa1 hp.2 q))
theorem t_Rounds_firstWrong_60 {d : Nat} {k9 : Nat → Int32 → Int32 → Option (Int32)} {a1 : Nat} {x2 : Int32} {x3 : Int32} {x4 : Int32} {x5 : Int32} {x6 : Int32} {h : am_H} {Q : am_Q} {res : Int32} (hk9 : ∀ (a1 : Nat) (x2 : Int32) (x3 : Int32), am_shf a1 → k9 a1 x2 x3 = some res → am_W (X_Rounds_firstWrong (d + 4)) 9 [some (.ref 17), some (.ref a1), some (.int x2), some (.int x3), none, none, none] [] h Q) (sa1 : am_shf a1) (e : f_Rounds_firstWrong_60 k9 h a1 x2 x3 x4 x5 x6 = some res) (q : Q (some (.int res)) h) : am_W (X_Rounds_firstWrong (d + 4)) 60 [some (.ref 17), some (.ref a1), some (.int x2), some (.int x3), some (.int x4), some (.int x5), some (.int x6)] [] h Q :=
  (am_bd e).elim fun p hp => b_Rounds_firstWrong_60 (d := (d + 3)) (sa1 := sa1) (k := c_Hole_carryOf (d := d + 2) hp.1 (t_Rounds_firstWrong_72 hk9 sa1 hp.2 q))
theorem t_Rounds_firstWrong_57 {d : Nat} {k9 : Nat → Int32 → Int32 → Option (Int32)} {a1 : Nat} {x2 : Int32} {x3 : Int32} {x4 : Int32} {x5 : Int32} {x6 : Int32} {y0 : Bool} {h : am_H} {Q : am_Q} {res : Int32} (hk9 : ∀ (a1 : Nat) (x2 : Int32) (x3 : Int32), am_shf a1 → k9 a1 x2 x3 = some res → am_W (X_Rounds_firstWrong (d + 4)) 9 [some (.ref 17), some (.ref a1), some (.int x2), some (.int x3), none, none, none] [] h Q) (sa1 : am_shf a1) (e : f_Rounds_firstWrong_57 k9 h a1 x2 x3 x4 x5 x6 y0 = some res) (q : Q (some (.int res)) h) : am_W (X_Rounds_firstWrong (d + 4)) 57 [some (.ref 17), some (.ref a1), some (.int x2), some (.int x3), some (.int x4), some (.int x5), some (.int x6)] [.int (am_b y0)] h Q :=
  b_Rounds_firstWrong_57 (d := (d + 4)) (sa1 := sa1) (kt := fun c => (t_Rounds_firstWrong_89 sa1 (am_iff e (am_bz c)) q)) (kf := fun c => (t_Rounds_firstWrong_60 hk9 sa1 (am_ift e (am_bn c)) q))
theorem t_Rounds_firstWrong_45 {d : Nat} {k9 : Nat → Int32 → Int32 → Option (Int32)} {a1 : Nat} {x2 : Int32} {x3 : Int32} {x4 : Int32} {x5 : Int32} {y0 : Int64} {h : am_H} {Q : am_Q} {res : Int32} (hk9 : ∀ (a1 : Nat) (x2 : Int32) (x3 : Int32), am_shf a1 → k9 a1 x2 x3 = some res → am_W (X_Rounds_firstWrong (d + 4)) 9 [some (.ref 17), some (.ref a1), some (.int x2), some (.int x3), none, none, none] [] h Q) (sa1 : am_shf a1) (e : f_Rounds_firstWrong_45 k9 h a1 x2 x3 x4 x5 y0 = some res) (q : Q (some (.int res)) h) : am_W (X_Rounds_firstWrong (d + 4)) 45 [some (.ref 17), some (.ref a1), some (.int x2), some (.int x3), some (.int x4), some (.int x5), none] [.long y0] h Q :=
  b_Rounds_firstWrong_45 (d := (d + 3)) (sa1 := sa1) (k := c_Hole_hasClub (d := d + 3) rfl (t_Rounds_firstWrong_57 hk9 sa1 e q))
theorem t_Rounds_firstWrong_33 {d : Nat} {k9 : Nat → Int32 → Int32 → Option (Int32)} {a1 : Nat} {x2 : Int32} {x3 : Int32} {x4 : Int32} {y0 : Int64} {h : am_H} {Q : am_Q} {res : Int32} (hk9 : ∀ (a1 : Nat) (x2 : Int32) (x3 : Int32), am_shf a1 → k9 a1 x2 x3 = some res → am_W (X_Rounds_firstWrong (d + 4)) 9 [some (.ref 17), some (.ref a1), some (.int x2), some (.int x3), none, none, none] [] h Q) (sa1 : am_shf a1) (e : f_Rounds_firstWrong_33 k9 h a1 x2 x3 x4 y0 = some res) (q : Q (some (.int res)) h) : am_W (X_Rounds_firstWrong (d + 4)) 33 [some (.ref 17), some (.ref a1), some (.int x2), some (.int x3), some (.int x4), none, none] [.long y0] h Q :=
  (am_bd e).elim fun p hp => b_Rounds_firstWrong_33 (d := (d + 3)) (sa1 := sa1) (k := c_Shelf_read (d := d + 3) sa1 hp.1 (t_Rounds_firstWrong_45 hk9 sa1 hp.2 q))
theorem t_Rounds_firstWrong_21 {d : Nat} {k9 : Nat → Int32 → Int32 → Option (Int32)} {a1 : Nat} {x2 : Int32} {x3 : Int32} {y0 : Int64} {h : am_H} {Q : am_Q} {res : Int32} (hk9 : ∀ (a1 : Nat) (x2 : Int32) (x3 : Int32), am_shf a1 → k9 a1 x2 x3 = some res → am_W (X_Rounds_firstWrong (d + 4)) 9 [some (.ref 17), some (.ref a1), some (.int x2), some (.int x3), none, none, none] [] h Q) (sa1 : am_shf a1) (e : f_Rounds_firstWrong_21 k9 h a1 x2 x3 y0 = some res) (q : Q (some (.int res)) h) : am_W (X_Rounds_firstWrong (d + 4)) 21 [some (.ref 17), some (.ref a1), some (.int x2), some (.int x3), none, none, none] [.long y0] h Q :=
  (am_bd e).elim fun p hp => b_Rounds_firstWrong_21 (d := (d + 3)) (sa1 := sa1) (k := c_Shelf_read (d := d + 3) sa1 hp.1 (t_Rounds_firstWrong_33 hk9 sa1 hp.2 q))
theorem t_Rounds_firstWrong_14 {d : Nat} {k9 : Nat → Int32 → Int32 → Option (Int32)} {a1 : Nat} {x2 : Int32} {x3 : Int32} {h : am_H} {Q : am_Q} {res : Int32} (hk9 : ∀ (a1 : Nat) (x2 : Int32) (x3 : Int32), am_shf a1 → k9 a1 x2 x3 = some res → am_W (X_Rounds_firstWrong (d + 4)) 9 [some (.ref 17), some (.ref a1), some (.int x2), some (.int x3), none, none, none] [] h Q) (sa1 : am_shf a1) (e : f_Rounds_firstWrong_14 k9 h a1 x2 x3 = some res) (q : Q (some (.int res)) h) : am_W (X_Rounds_firstWrong (d + 4)) 14 [some (.ref 17), some (.ref a1), some (.int x2), some (.int x3), none, none, none] [] h Q :=
  (am_bd e).elim fun p hp => b_Rounds_firstWrong_14 (d := (d + 3)) (sa1 := sa1) (k := c_Shelf_read (d := d + 3) sa1 hp.1 (t_Rounds_firstWrong_21 hk9 sa1 hp.2 q))
theorem t_Rounds_firstWrong_9 {d : Nat} {k9 : Nat → Int32 → Int32 → Option (Int32)} {a1 : Nat} {x2 : Int32} {x3 : Int32} {h : am_H} {Q : am_Q} {res : Int32} (hk9 : ∀ (a1 : Nat) (x2 : Int32) (x3 : Int32), am_shf a1 → k9 a1 x2 x3 = some res → am_W (X_Rounds_firstWrong (d + 4)) 9 [some (.ref 17), some (.ref a1), some (.int x2), some (.int x3), none, none, none] [] h Q) (sa1 : am_shf a1) (e : f_Rounds_firstWrong_9 k9 h a1 x2 x3 = some res) (q : Q (some (.int res)) h) : am_W (X_Rounds_firstWrong (d + 4)) 9 [some (.ref 17), some (.ref a1), some (.int x2), some (.int x3), none, none, none] [] h Q :=
  b_Rounds_firstWrong_9 (d := (d + 4)) (sa1 := sa1) (kt := fun c => (t_Rounds_firstWrong_97 sa1 (am_ift e c) q)) (kf := fun c => (t_Rounds_firstWrong_14 hk9 sa1 (am_ife e c) q))
theorem t_Rounds_firstWrong_9_l {d : Nat} {h : am_H} {Q : am_Q} {res : Int32} (q : Q (some (.int res)) h) : ∀ (n : Nat) (a1 : Nat) (x2 : Int32) (x3 : Int32), am_shf a1 → f_Rounds_firstWrong_9_l h n a1 x2 x3 = some res → am_W (X_Rounds_firstWrong (d + 4)) 9 [some (.ref 17), some (.ref a1), some (.int x2), some (.int x3), none, none, none] [] h Q := by
  intro n
  induction n with
  | zero => intro a1 x2 x3 sa1 e; exact am_nn e
  | succ n ih => intro a1 x2 x3 sa1 e; exact t_Rounds_firstWrong_9 (fun a1 x2 x3 sa1 e => ih a1 x2 x3 sa1 e) sa1 e q
theorem t_Rounds_firstWrong_4 {d : Nat} {a1 : Nat} {y0 : Int32} {h : am_H} {Q : am_Q} {res : Int32} (sa1 : am_shf a1) (e : f_Rounds_firstWrong_4 h a1 y0 = some res) (q : Q (some (.int res)) h) : am_W (X_Rounds_firstWrong (d + 4)) 4 [some (.ref 17), some (.ref a1), none, none, none, none, none] [.int y0] h Q :=
  b_Rounds_firstWrong_4 (d := (d + 4)) (sa1 := sa1) (k := (t_Rounds_firstWrong_9_l q am_fu _ _ _ sa1 e))
theorem t_Rounds_firstWrong_0 {d : Nat} {a1 : Nat} {h : am_H} {Q : am_Q} {res : Int32} (sa1 : am_shf a1) (e : f_Rounds_firstWrong h a1 = some res) (q : Q (some (.int res)) h) : am_W (X_Rounds_firstWrong (d + 4)) 0 [some (.ref 17), some (.ref a1), none, none, none, none, none] [] h Q :=
  b_Rounds_firstWrong_0 (d := (d + 3)) (sa1 := sa1) (k := c_Shelf_length (d := d + 3) sa1 rfl (t_Rounds_firstWrong_4 sa1 e q))
theorem c_Rounds_firstWrong {d : Nat} {a1 : Nat} {h : am_H} {Q : am_Q} {res : Int32} (sa1 : am_shf a1) (e : f_Rounds_firstWrong h a1 = some res) (q : Q (some (.int res)) h) : m_Rounds_firstWrong (d + 4) [.ref 17, .ref a1] h Q :=
  e_Rounds_firstWrong (t_Rounds_firstWrong_0 sa1 e q)
theorem d_Club_judge_0 : decode prog_1_method_20_code 0 = .ok (.aload_n 0, 1) := by decide +kernel
theorem d_Club_judge_1 : decode prog_1_method_20_code 1 = .ok (.iload_n 1, 1) := by decide +kernel
theorem d_Club_judge_2 : decode prog_1_method_20_code 2 = .ok (.invokevirtual 242, 3) := by decide +kernel
theorem d_Club_judge_5 : decode prog_1_method_20_code 5 = .ok (.istore_n 2, 1) := by decide +kernel
theorem d_Club_judge_6 : decode prog_1_method_20_code 6 = .ok (.iload_n 2, 1) := by decide +kernel
theorem d_Club_judge_7 : decode prog_1_method_20_code 7 = .ok (.ifCond .eq 7, 3) := by decide +kernel
theorem d_Club_judge_10 : decode prog_1_method_20_code 10 = .ok (.iload_n 2, 1) := by decide +kernel
theorem d_Club_judge_11 : decode prog_1_method_20_code 11 = .ok (.goto 16, 3) := by decide +kernel
theorem d_Club_judge_14 : decode prog_1_method_20_code 14 = .ok (.aload_n 0, 1) := by decide +kernel
theorem d_Club_judge_15 : decode prog_1_method_20_code 15 = .ok (.getfield 39, 3) := by decide +kernel
theorem d_Club_judge_18 : decode prog_1_method_20_code 18 = .ok (.aload_n 0, 1) := by decide +kernel
theorem d_Club_judge_19 : decode prog_1_method_20_code 19 = .ok (.getfield 75, 3) := by decide +kernel
theorem d_Club_judge_22 : decode prog_1_method_20_code 22 = .ok (.iload_n 1, 1) := by decide +kernel
theorem d_Club_judge_23 : decode prog_1_method_20_code 23 = .ok (.aaload, 1) := by decide +kernel
theorem d_Club_judge_24 : decode prog_1_method_20_code 24 = .ok (.invokevirtual 245, 3) := by decide +kernel
theorem d_Club_judge_27 : decode prog_1_method_20_code 27 = .ok (.ireturn, 1) := by decide +kernel
theorem b_Club_judge_0 {d : Nat} {x1 : Int32} {h : am_H} {Q : am_Q} (k : m_Club_refuseRound d [.ref 0, .int x1] h (fun r hh => am_W (X_Club_judge (d + 1)) 5 [some (.ref 0), some (.int x1), none] (r.toList ++ []) hh Q)) : am_W (X_Club_judge (d + 1)) 0 [some (.ref 0), some (.int x1), none] [] h Q :=
  am_aload_n d_Club_judge_0 rfl (i := 0) rfl <|
    am_iload_n d_Club_judge_1 rfl (i := 1) rfl <|
    am_callV (vs := [.int x1]) (st := []) (k := 0) (ci := 0) rfl d_Club_judge_2 rfl rfl w_944 w_946 w_23 w_83 w_947 p_Club_refuseRound (Nat.le_of_ble_eq_true rfl) (Nat.le_of_ble_eq_true rfl) rfl k
theorem b_Club_judge_5 {d : Nat} {x1 : Int32} {y0 : Int32} {h : am_H} {Q : am_Q} (kt : y0 = 0 → am_W (X_Club_judge d) 14 [some (.ref 0), some (.int x1), some (.int y0)] [] h Q) (kf : ¬ y0 = 0 → am_W (X_Club_judge d) 10 [some (.ref 0), some (.int x1), some (.int y0)] [] h Q) : am_W (X_Club_judge d) 5 [some (.ref 0), some (.int x1), none] [.int y0] h Q :=
  am_istore_n (ls' := [some (.ref 0), some (.int x1), some (.int y0)]) d_Club_judge_5 rfl (Nat.le_of_ble_eq_true rfl) rfl <|
    am_iload_n d_Club_judge_6 rfl (i := 2) rfl <|
    am_if_eq (tgt := 14) d_Club_judge_7 (by decide) kt kf
theorem b_Club_judge_10 {d : Nat} {x1 : Int32} {x2 : Int32} {h : am_H} {Q : am_Q} (q : Q (some (.int x2)) h) : am_W (X_Club_judge d) 10 [some (.ref 0), some (.int x1), some (.int x2)] [] h Q :=
  am_iload_n d_Club_judge_10 rfl (i := 2) rfl <|
    am_goto (tgt := 27) d_Club_judge_11 (by decide) <|
    am_iret rfl d_Club_judge_27 q
theorem b_Club_judge_14 {d : Nat} {x1 : Int32} {x2 : Int32} {h : am_H} {Q : am_Q} (q0 : vp_in x1 6) (k : m_Rounds_firstWrong d [.ref 17, .ref (am_shp x1)] h (fun r hh => am_W (X_Club_judge (d + 1)) 27 [some (.ref 0), some (.int x1), some (.int x2)] (r.toList ++ []) hh Q)) : am_W (X_Club_judge (d + 1)) 14 [some (.ref 0), some (.int x1), some (.int x2)] [] h Q :=
  am_aload_n d_Club_judge_14 rfl (i := 0) rfl <|
    am_getR (ci := 0) (i := 3) rfl rfl rfl (Nat.le_of_ble_eq_true rfl) w_365 d_Club_judge_15 <|
    am_aload_n d_Club_judge_18 rfl (i := 0) rfl <|
    am_getR (ci := 0) (i := 8) rfl rfl rfl (Nat.le_of_ble_eq_true rfl) w_370 d_Club_judge_19 <|
    am_iload_n d_Club_judge_22 rfl (i := 1) rfl <|
    am_aald (q := am_shp x1) rfl q0 (am_shq q0) d_Club_judge_23 <|
    am_callV (vs := [.ref (am_shp x1)]) (st := []) (k := 17) (ci := 4) rfl d_Club_judge_24 rfl rfl w_948 w_949 w_950 w_88 w_951 p_Rounds_firstWrong (Nat.le_of_ble_eq_true rfl) (Nat.le_of_ble_eq_true rfl) rfl k
theorem b_Club_judge_27 {d : Nat} {x1 : Int32} {x2 : Int32} {y0 : Int32} {h : am_H} {Q : am_Q} (q : Q (some (.int y0)) h) : am_W (X_Club_judge d) 27 [some (.ref 0), some (.int x1), some (.int x2)] [.int y0] h Q :=
  am_iret rfl d_Club_judge_27 q
theorem t_Club_judge_27 {d : Nat} {x1 : Int32} {x2 : Int32} {y0 : Int32} {h : am_H} {Q : am_Q} {res : Int32} (e : f_Club_judge_27 h y0 = some res) (q : Q (some (.int res)) h) : am_W (X_Club_judge (d + 5)) 27 [some (.ref 0), some (.int x1), some (.int x2)] [.int y0] h Q :=
  b_Club_judge_27 (d := (d + 5)) (q := (am_rIp (v := y0) e q))
theorem t_Club_judge_14 {d : Nat} {x1 : Int32} {x2 : Int32} {h : am_H} {Q : am_Q} {res : Int32} (e : f_Club_judge_14 h x1 = some res) (q : Q (some (.int res)) h) : am_W (X_Club_judge (d + 5)) 14 [some (.ref 0), some (.int x1), some (.int x2)] [] h Q :=
  (am_bd (am_ga e)).elim fun p hp => b_Club_judge_14 (d := (d + 4)) (q0 := (am_okv (am_gd e))) (k := c_Rounds_firstWrong (d := d) (am_shl (am_okv (am_gd e))) hp.1 (t_Club_judge_27 hp.2 q))
theorem t_Club_judge_10 {d : Nat} {x1 : Int32} {x2 : Int32} {h : am_H} {Q : am_Q} {res : Int32} (e : f_Club_judge_10 h x2 = some res) (q : Q (some (.int res)) h) : am_W (X_Club_judge (d + 5)) 10 [some (.ref 0), some (.int x1), some (.int x2)] [] h Q :=
  b_Club_judge_10 (d := (d + 5)) (q := (am_rIp (v := x2) e q))
theorem t_Club_judge_5 {d : Nat} {x1 : Int32} {y0 : Int32} {h : am_H} {Q : am_Q} {res : Int32} (e : f_Club_judge_5 h x1 y0 = some res) (q : Q (some (.int res)) h) : am_W (X_Club_judge (d + 5)) 5 [some (.ref 0), some (.int x1), none] [.int y0] h Q :=
  b_Club_judge_5 (d := (d + 5)) (kt := fun c => (t_Club_judge_14 (am_ift e c) q)) (kf := fun c => (t_Club_judge_10 (am_ife e c) q))
theorem t_Club_judge_0 {d : Nat} {x1 : Int32} {h : am_H} {Q : am_Q} {res : Int32} (e : f_Club_judge h x1 = some res) (q : Q (some (.int res)) h) : am_W (X_Club_judge (d + 5)) 0 [some (.ref 0), some (.int x1), none] [] h Q :=
  (am_bd e).elim fun p hp => b_Club_judge_0 (d := (d + 4)) (k := c_Club_refuseRound (d := d + 3) hp.1 (t_Club_judge_5 hp.2 q))
theorem c_Club_judge {d : Nat} {x1 : Int32} {h : am_H} {Q : am_Q} {res : Int32} (e : f_Club_judge h x1 = some res) (q : Q (some (.int res)) h) : m_Club_judge (d + 5) [.ref 0, .int x1] h Q :=
  e_Club_judge (t_Club_judge_0 e q)
theorem d_Rounds_isToldOf_0 : decode prog_8_method_5_code 0 = .ok (.iconst 0, 1) := by decide +kernel
theorem d_Rounds_isToldOf_1 : decode prog_8_method_5_code 1 = .ok (.istore_n 3, 1) := by decide +kernel
theorem d_Rounds_isToldOf_2 : decode prog_8_method_5_code 2 = .ok (.iload_n 3, 1) := by decide +kernel
theorem d_Rounds_isToldOf_3 : decode prog_8_method_5_code 3 = .ok (.aload_n 1, 1) := by decide +kernel
theorem d_Rounds_isToldOf_4 : decode prog_8_method_5_code 4 = .ok (.invokevirtual 19, 3) := by decide +kernel
theorem d_Rounds_isToldOf_7 : decode prog_8_method_5_code 7 = .ok (.iconst 3, 1) := by decide +kernel
theorem d_Rounds_isToldOf_8 : decode prog_8_method_5_code 8 = .ok (.idiv, 1) := by decide +kernel
theorem d_Rounds_isToldOf_9 : decode prog_8_method_5_code 9 = .ok (.if_icmp .ge 26, 3) := by decide +kernel
theorem d_Rounds_isToldOf_12 : decode prog_8_method_5_code 12 = .ok (.aload_n 1, 1) := by decide +kernel
theorem d_Rounds_isToldOf_13 : decode prog_8_method_5_code 13 = .ok (.iconst 3, 1) := by decide +kernel
theorem d_Rounds_isToldOf_14 : decode prog_8_method_5_code 14 = .ok (.iload_n 3, 1) := by decide +kernel
theorem d_Rounds_isToldOf_15 : decode prog_8_method_5_code 15 = .ok (.imul, 1) := by decide +kernel
theorem d_Rounds_isToldOf_16 : decode prog_8_method_5_code 16 = .ok (.iconst 1, 1) := by decide +kernel
theorem d_Rounds_isToldOf_17 : decode prog_8_method_5_code 17 = .ok (.iadd, 1) := by decide +kernel
theorem d_Rounds_isToldOf_18 : decode prog_8_method_5_code 18 = .ok (.invokevirtual 25, 3) := by decide +kernel
theorem d_Rounds_isToldOf_21 : decode prog_8_method_5_code 21 = .ok (.iload_n 2, 1) := by decide +kernel
theorem d_Rounds_isToldOf_22 : decode prog_8_method_5_code 22 = .ok (.i2l, 1) := by decide +kernel
theorem d_Rounds_isToldOf_23 : decode prog_8_method_5_code 23 = .ok (.lcmp, 1) := by decide +kernel
theorem d_Rounds_isToldOf_24 : decode prog_8_method_5_code 24 = .ok (.ifCond .ne 5, 3) := by decide +kernel
theorem d_Rounds_isToldOf_27 : decode prog_8_method_5_code 27 = .ok (.iconst 1, 1) := by decide +kernel
theorem d_Rounds_isToldOf_28 : decode prog_8_method_5_code 28 = .ok (.ireturn, 1) := by decide +kernel
theorem d_Rounds_isToldOf_29 : decode prog_8_method_5_code 29 = .ok (.iinc 3 1, 3) := by decide +kernel
theorem d_Rounds_isToldOf_32 : decode prog_8_method_5_code 32 = .ok (.goto (-30), 3) := by decide +kernel
theorem d_Rounds_isToldOf_35 : decode prog_8_method_5_code 35 = .ok (.iconst 0, 1) := by decide +kernel
theorem d_Rounds_isToldOf_36 : decode prog_8_method_5_code 36 = .ok (.ireturn, 1) := by decide +kernel
theorem b_Rounds_isToldOf_0 {d : Nat} {a1 : Nat} {x2 : Int32} {h : am_H} {Q : am_Q} (sa1 : am_shf a1) (k : am_W (X_Rounds_isToldOf d) 2 [some (.ref 17), some (.ref a1), some (.int x2), some (.int 0)] [] h Q) : am_W (X_Rounds_isToldOf d) 0 [some (.ref 17), some (.ref a1), some (.int x2), none] [] h Q :=
  am_iconst (v := 0) d_Rounds_isToldOf_0 (by decide) <|
    am_istore_n (ls' := [some (.ref 17), some (.ref a1), some (.int x2), some (.int 0)]) d_Rounds_isToldOf_1 rfl (Nat.le_of_ble_eq_true rfl) rfl <|
    k
theorem b_Rounds_isToldOf_2 {d : Nat} {a1 : Nat} {x2 : Int32} {x3 : Int32} {h : am_H} {Q : am_Q} (sa1 : am_shf a1) (k : m_Shelf_length d [.ref a1] h (fun r hh => am_W (X_Rounds_isToldOf (d + 1)) 7 [some (.ref 17), some (.ref a1), some (.int x2), some (.int x3)] (r.toList ++ [.int x3]) hh Q)) : am_W (X_Rounds_isToldOf (d + 1)) 2 [some (.ref 17), some (.ref a1), some (.int x2), some (.int x3)] [] h Q :=
  am_iload_n d_Rounds_isToldOf_2 rfl (i := 3) rfl <|
    am_aload_n d_Rounds_isToldOf_3 rfl (i := 1) rfl <|
    am_callV (vs := []) (st := [.int x3]) (k := a1) (ci := 9) rfl d_Rounds_isToldOf_4 rfl sa1.1 w_952 w_953 w_954 w_93 w_955 p_Shelf_length (Nat.le_of_ble_eq_true rfl) (Nat.le_of_ble_eq_true rfl) rfl k
theorem b_Rounds_isToldOf_7 {d : Nat} {a1 : Nat} {x2 : Int32} {x3 : Int32} {y1 : Int32} {y0 : Int32} {h : am_H} {Q : am_Q} (sa1 : am_shf a1) (kt : (y1 / 3) ≤ y0 → am_W (X_Rounds_isToldOf d) 35 [some (.ref 17), some (.ref a1), some (.int x2), some (.int x3)] [] h Q) (kf : ¬ (y1 / 3) ≤ y0 → am_W (X_Rounds_isToldOf d) 12 [some (.ref 17), some (.ref a1), some (.int x2), some (.int x3)] [] h Q) : am_W (X_Rounds_isToldOf d) 7 [some (.ref 17), some (.ref a1), some (.int x2), some (.int x3)] [.int y1, .int y0] h Q :=
  am_iconst (v := 3) d_Rounds_isToldOf_7 (by decide) <|
    am_idiv d_Rounds_isToldOf_8 (by decide) <|
    am_icmp_ge (tgt := 35) d_Rounds_isToldOf_9 (by decide) kt kf
theorem b_Rounds_isToldOf_12 {d : Nat} {a1 : Nat} {x2 : Int32} {x3 : Int32} {h : am_H} {Q : am_Q} (sa1 : am_shf a1) (k : m_Shelf_read d [.ref a1, .int ((3 * x3) + 1)] h (fun r hh => am_W (X_Rounds_isToldOf (d + 1)) 21 [some (.ref 17), some (.ref a1), some (.int x2), some (.int x3)] (r.toList ++ []) hh Q)) : am_W (X_Rounds_isToldOf (d + 1)) 12 [some (.ref 17), some (.ref a1), some (.int x2), some (.int x3)] [] h Q :=
  am_aload_n d_Rounds_isToldOf_12 rfl (i := 1) rfl <|
    am_iconst (v := 3) d_Rounds_isToldOf_13 (by decide) <|
    am_iload_n d_Rounds_isToldOf_14 rfl (i := 3) rfl <|
    am_imul d_Rounds_isToldOf_15 <|
    am_iconst (v := 1) d_Rounds_isToldOf_16 (by decide) <|
    am_iadd d_Rounds_isToldOf_17 <|
    am_callV (vs := [.int ((3 * x3) + 1)]) (st := []) (k := a1) (ci := 9) rfl d_Rounds_isToldOf_18 rfl sa1.1 w_956 w_452 w_453 w_93 w_454 p_Shelf_read (Nat.le_of_ble_eq_true rfl) (Nat.le_of_ble_eq_true rfl) rfl k
theorem b_Rounds_isToldOf_21 {d : Nat} {a1 : Nat} {x2 : Int32} {x3 : Int32} {y0 : Int64} {h : am_H} {Q : am_Q} (sa1 : am_shf a1) (kt : ¬ y0 = x2.toInt64 → am_W (X_Rounds_isToldOf d) 29 [some (.ref 17), some (.ref a1), some (.int x2), some (.int x3)] [] h Q) (kf : y0 = x2.toInt64 → am_W (X_Rounds_isToldOf d) 27 [some (.ref 17), some (.ref a1), some (.int x2), some (.int x3)] [] h Q) : am_W (X_Rounds_isToldOf d) 21 [some (.ref 17), some (.ref a1), some (.int x2), some (.int x3)] [.long y0] h Q :=
  am_iload_n d_Rounds_isToldOf_21 rfl (i := 2) rfl <|
    am_i2l d_Rounds_isToldOf_22 <|
    am_lc_if_ne (tgt := 29) d_Rounds_isToldOf_23 d_Rounds_isToldOf_24 (by decide) kt kf
theorem b_Rounds_isToldOf_27 {d : Nat} {a1 : Nat} {x2 : Int32} {x3 : Int32} {h : am_H} {Q : am_Q} (sa1 : am_shf a1) (q : Q (some (.int 1)) h) : am_W (X_Rounds_isToldOf d) 27 [some (.ref 17), some (.ref a1), some (.int x2), some (.int x3)] [] h Q :=
  am_iconst (v := 1) d_Rounds_isToldOf_27 (by decide) <|
    am_zret (ty := .boolean) rfl (by decide) d_Rounds_isToldOf_28 q
theorem b_Rounds_isToldOf_29 {d : Nat} {a1 : Nat} {x2 : Int32} {x3 : Int32} {h : am_H} {Q : am_Q} (sa1 : am_shf a1) (k : am_W (X_Rounds_isToldOf d) 2 [some (.ref 17), some (.ref a1), some (.int x2), some (.int (x3 + 1))] [] h Q) : am_W (X_Rounds_isToldOf d) 29 [some (.ref 17), some (.ref a1), some (.int x2), some (.int x3)] [] h Q :=
  am_iinc (v := (x3 + 1)) (ls' := [some (.ref 17), some (.ref a1), some (.int x2), some (.int (x3 + 1))]) d_Rounds_isToldOf_29 rfl rfl (Nat.le_of_ble_eq_true rfl) rfl <|
    am_goto (tgt := 2) d_Rounds_isToldOf_32 (by decide) k
theorem b_Rounds_isToldOf_35 {d : Nat} {a1 : Nat} {x2 : Int32} {x3 : Int32} {h : am_H} {Q : am_Q} (sa1 : am_shf a1) (q : Q (some (.int 0)) h) : am_W (X_Rounds_isToldOf d) 35 [some (.ref 17), some (.ref a1), some (.int x2), some (.int x3)] [] h Q :=
  am_iconst (v := 0) d_Rounds_isToldOf_35 (by decide) <|
    am_zret (ty := .boolean) rfl (by decide) d_Rounds_isToldOf_36 q
theorem t_Rounds_isToldOf_35 {d : Nat} {a1 : Nat} {x2 : Int32} {x3 : Int32} {h : am_H} {Q : am_Q} {res : Bool} (sa1 : am_shf a1) (e : f_Rounds_isToldOf_35 h = some res) (q : Q (some (.int (am_b res))) h) : am_W (X_Rounds_isToldOf (d + 1)) 35 [some (.ref 17), some (.ref a1), some (.int x2), some (.int x3)] [] h Q :=
  b_Rounds_isToldOf_35 (d := (d + 1)) (sa1 := sa1) (q := (am_rZp (v := false) e q))
theorem t_Rounds_isToldOf_29 {d : Nat} {k2 : Nat → Int32 → Int32 → Option (Bool)} {a1 : Nat} {x2 : Int32} {x3 : Int32} {h : am_H} {Q : am_Q} {res : Bool} (hk2 : ∀ (a1 : Nat) (x2 : Int32) (x3 : Int32), am_shf a1 → k2 a1 x2 x3 = some res → am_W (X_Rounds_isToldOf (d + 1)) 2 [some (.ref 17), some (.ref a1), some (.int x2), some (.int x3)] [] h Q) (sa1 : am_shf a1) (e : f_Rounds_isToldOf_29 k2 h a1 x2 x3 = some res) (q : Q (some (.int (am_b res))) h) : am_W (X_Rounds_isToldOf (d + 1)) 29 [some (.ref 17), some (.ref a1), some (.int x2), some (.int x3)] [] h Q :=
  b_Rounds_isToldOf_29 (d := (d + 1)) (sa1 := sa1) (k := (hk2 _ _ _ sa1 e))
theorem t_Rounds_isToldOf_27 {d : Nat} {a1 : Nat} {x2 : Int32} {x3 : Int32} {h : am_H} {Q : am_Q} {res : Bool} (sa1 : am_shf a1) (e : f_Rounds_isToldOf_27 h = some res) (q : Q (some (.int (am_b res))) h) : am_W (X_Rounds_isToldOf (d + 1)) 27 [some (.ref 17), some (.ref a1), some (.int x2), some (.int x3)] [] h Q :=
  b_Rounds_isToldOf_27 (d := (d + 1)) (sa1 := sa1) (q := (am_rZp (v := true) e q))
theorem t_Rounds_isToldOf_21 {d : Nat} {k2 : Nat → Int32 → Int32 → Option (Bool)} {a1 : Nat} {x2 : Int32} {x3 : Int32} {y0 : Int64} {h : am_H} {Q : am_Q} {res : Bool} (hk2 : ∀ (a1 : Nat) (x2 : Int32) (x3 : Int32), am_shf a1 → k2 a1 x2 x3 = some res → am_W (X_Rounds_isToldOf (d + 1)) 2 [some (.ref 17), some (.ref a1), some (.int x2), some (.int x3)] [] h Q) (sa1 : am_shf a1) (e : f_Rounds_isToldOf_21 k2 h a1 x2 x3 y0 = some res) (q : Q (some (.int (am_b res))) h) : am_W (X_Rounds_isToldOf (d + 1)) 21 [some (.ref 17), some (.ref a1), some (.int x2), some (.int x3)] [.long y0] h Q :=
  b_Rounds_isToldOf_21 (d := (d + 1)) (sa1 := sa1) (kt := fun c => (t_Rounds_isToldOf_29 hk2 sa1 (am_ife e c) q)) (kf := fun c => (t_Rounds_isToldOf_27 sa1 (am_ift e c) q))
theorem t_Rounds_isToldOf_12 {d : Nat} {k2 : Nat → Int32 → Int32 → Option (Bool)} {a1 : Nat} {x2 : Int32} {x3 : Int32} {h : am_H} {Q : am_Q} {res : Bool} (hk2 : ∀ (a1 : Nat) (x2 : Int32) (x3 : Int32), am_shf a1 → k2 a1 x2 x3 = some res → am_W (X_Rounds_isToldOf (d + 1)) 2 [some (.ref 17), some (.ref a1), some (.int x2), some (.int x3)] [] h Q) (sa1 : am_shf a1) (e : f_Rounds_isToldOf_12 k2 h a1 x2 x3 = some res) (q : Q (some (.int (am_b res))) h) : am_W (X_Rounds_isToldOf (d + 1)) 12 [some (.ref 17), some (.ref a1), some (.int x2), some (.int x3)] [] h Q :=
  (am_bd e).elim fun p hp => b_Rounds_isToldOf_12 (d := d) (sa1 := sa1) (k := c_Shelf_read (d := d) sa1 hp.1 (t_Rounds_isToldOf_21 hk2 sa1 hp.2 q))
theorem t_Rounds_isToldOf_7 {d : Nat} {k2 : Nat → Int32 → Int32 → Option (Bool)} {a1 : Nat} {x2 : Int32} {x3 : Int32} {y1 : Int32} {y0 : Int32} {h : am_H} {Q : am_Q} {res : Bool} (hk2 : ∀ (a1 : Nat) (x2 : Int32) (x3 : Int32), am_shf a1 → k2 a1 x2 x3 = some res → am_W (X_Rounds_isToldOf (d + 1)) 2 [some (.ref 17), some (.ref a1), some (.int x2), some (.int x3)] [] h Q) (sa1 : am_shf a1) (e : f_Rounds_isToldOf_7 k2 h a1 x2 x3 y1 y0 = some res) (q : Q (some (.int (am_b res))) h) : am_W (X_Rounds_isToldOf (d + 1)) 7 [some (.ref 17), some (.ref a1), some (.int x2), some (.int x3)] [.int y1, .int y0] h Q :=
  b_Rounds_isToldOf_7 (d := (d + 1)) (sa1 := sa1) (kt := fun c => (t_Rounds_isToldOf_35 sa1 (am_ift e c) q)) (kf := fun c => (t_Rounds_isToldOf_12 hk2 sa1 (am_ife e c) q))
theorem t_Rounds_isToldOf_2 {d : Nat} {k2 : Nat → Int32 → Int32 → Option (Bool)} {a1 : Nat} {x2 : Int32} {x3 : Int32} {h : am_H} {Q : am_Q} {res : Bool} (hk2 : ∀ (a1 : Nat) (x2 : Int32) (x3 : Int32), am_shf a1 → k2 a1 x2 x3 = some res → am_W (X_Rounds_isToldOf (d + 1)) 2 [some (.ref 17), some (.ref a1), some (.int x2), some (.int x3)] [] h Q) (sa1 : am_shf a1) (e : f_Rounds_isToldOf_2 k2 h a1 x2 x3 = some res) (q : Q (some (.int (am_b res))) h) : am_W (X_Rounds_isToldOf (d + 1)) 2 [some (.ref 17), some (.ref a1), some (.int x2), some (.int x3)] [] h Q :=
  b_Rounds_isToldOf_2 (d := d) (sa1 := sa1) (k := c_Shelf_length (d := d) sa1 rfl (t_Rounds_isToldOf_7 hk2 sa1 e q))
theorem t_Rounds_isToldOf_2_l {d : Nat} {h : am_H} {Q : am_Q} {res : Bool} (q : Q (some (.int (am_b res))) h) : ∀ (n : Nat) (a1 : Nat) (x2 : Int32) (x3 : Int32), am_shf a1 → f_Rounds_isToldOf_2_l h n a1 x2 x3 = some res → am_W (X_Rounds_isToldOf (d + 1)) 2 [some (.ref 17), some (.ref a1), some (.int x2), some (.int x3)] [] h Q := by
  intro n
  induction n with
  | zero => intro a1 x2 x3 sa1 e; exact am_nn e
  | succ n ih => intro a1 x2 x3 sa1 e; exact t_Rounds_isToldOf_2 (fun a1 x2 x3 sa1 e => ih a1 x2 x3 sa1 e) sa1 e q
theorem t_Rounds_isToldOf_0 {d : Nat} {a1 : Nat} {x2 : Int32} {h : am_H} {Q : am_Q} {res : Bool} (sa1 : am_shf a1) (e : f_Rounds_isToldOf h a1 x2 = some res) (q : Q (some (.int (am_b res))) h) : am_W (X_Rounds_isToldOf (d + 1)) 0 [some (.ref 17), some (.ref a1), some (.int x2), none] [] h Q :=
  b_Rounds_isToldOf_0 (d := (d + 1)) (sa1 := sa1) (k := (t_Rounds_isToldOf_2_l q am_fu _ _ _ sa1 e))
theorem c_Rounds_isToldOf {d : Nat} {a1 : Nat} {x2 : Int32} {h : am_H} {Q : am_Q} {res : Bool} (sa1 : am_shf a1) (e : f_Rounds_isToldOf h a1 x2 = some res) (q : Q (some (.int (am_b res))) h) : m_Rounds_isToldOf (d + 1) [.ref 17, .ref a1, .int x2] h Q :=
  e_Rounds_isToldOf (t_Rounds_isToldOf_0 sa1 e q)
theorem d_Rounds_waysOfAll_0 : decode prog_8_method_6_code 0 = .ok (.lconst 1, 1) := by decide +kernel
theorem d_Rounds_waysOfAll_1 : decode prog_8_method_6_code 1 = .ok (.lstore 4, 2) := by decide +kernel
theorem d_Rounds_waysOfAll_3 : decode prog_8_method_6_code 3 = .ok (.iconst 0, 1) := by decide +kernel
theorem d_Rounds_waysOfAll_4 : decode prog_8_method_6_code 4 = .ok (.istore 6, 2) := by decide +kernel
theorem d_Rounds_waysOfAll_6 : decode prog_8_method_6_code 6 = .ok (.iload 6, 2) := by decide +kernel
theorem d_Rounds_waysOfAll_8 : decode prog_8_method_6_code 8 = .ok (.aload_n 1, 1) := by decide +kernel
theorem d_Rounds_waysOfAll_9 : decode prog_8_method_6_code 9 = .ok (.invokevirtual 19, 3) := by decide +kernel
theorem d_Rounds_waysOfAll_12 : decode prog_8_method_6_code 12 = .ok (.iconst 3, 1) := by decide +kernel
theorem d_Rounds_waysOfAll_13 : decode prog_8_method_6_code 13 = .ok (.idiv, 1) := by decide +kernel
theorem d_Rounds_waysOfAll_14 : decode prog_8_method_6_code 14 = .ok (.if_icmp .ge 75, 3) := by decide +kernel
theorem d_Rounds_waysOfAll_17 : decode prog_8_method_6_code 17 = .ok (.lload 4, 2) := by decide +kernel
theorem d_Rounds_waysOfAll_19 : decode prog_8_method_6_code 19 = .ok (.lconst 0, 1) := by decide +kernel
theorem d_Rounds_waysOfAll_20 : decode prog_8_method_6_code 20 = .ok (.lcmp, 1) := by decide +kernel
theorem d_Rounds_waysOfAll_21 : decode prog_8_method_6_code 21 = .ok (.ifCond .le 68, 3) := by decide +kernel
theorem d_Rounds_waysOfAll_24 : decode prog_8_method_6_code 24 = .ok (.aload_n 1, 1) := by decide +kernel
theorem d_Rounds_waysOfAll_25 : decode prog_8_method_6_code 25 = .ok (.iconst 3, 1) := by decide +kernel
theorem d_Rounds_waysOfAll_26 : decode prog_8_method_6_code 26 = .ok (.iload 6, 2) := by decide +kernel
theorem d_Rounds_waysOfAll_28 : decode prog_8_method_6_code 28 = .ok (.imul, 1) := by decide +kernel
theorem d_Rounds_waysOfAll_29 : decode prog_8_method_6_code 29 = .ok (.iconst 1, 1) := by decide +kernel
theorem d_Rounds_waysOfAll_30 : decode prog_8_method_6_code 30 = .ok (.iadd, 1) := by decide +kernel
theorem d_Rounds_waysOfAll_31 : decode prog_8_method_6_code 31 = .ok (.invokevirtual 25, 3) := by decide +kernel
theorem d_Rounds_waysOfAll_34 : decode prog_8_method_6_code 34 = .ok (.iload_n 2, 1) := by decide +kernel
theorem d_Rounds_waysOfAll_35 : decode prog_8_method_6_code 35 = .ok (.i2l, 1) := by decide +kernel
theorem d_Rounds_waysOfAll_36 : decode prog_8_method_6_code 36 = .ok (.lcmp, 1) := by decide +kernel
theorem d_Rounds_waysOfAll_37 : decode prog_8_method_6_code 37 = .ok (.ifCond .ne 46, 3) := by decide +kernel
theorem d_Rounds_waysOfAll_40 : decode prog_8_method_6_code 40 = .ok (.aload_n 1, 1) := by decide +kernel
theorem d_Rounds_waysOfAll_41 : decode prog_8_method_6_code 41 = .ok (.iconst 3, 1) := by decide +kernel
theorem d_Rounds_waysOfAll_42 : decode prog_8_method_6_code 42 = .ok (.iload 6, 2) := by decide +kernel
theorem d_Rounds_waysOfAll_44 : decode prog_8_method_6_code 44 = .ok (.imul, 1) := by decide +kernel
theorem d_Rounds_waysOfAll_45 : decode prog_8_method_6_code 45 = .ok (.invokevirtual 25, 3) := by decide +kernel
theorem d_Rounds_waysOfAll_48 : decode prog_8_method_6_code 48 = .ok (.l2i, 1) := by decide +kernel
theorem d_Rounds_waysOfAll_49 : decode prog_8_method_6_code 49 = .ok (.istore 7, 2) := by decide +kernel
theorem d_Rounds_waysOfAll_51 : decode prog_8_method_6_code 51 = .ok (.lload 4, 2) := by decide +kernel
theorem d_Rounds_waysOfAll_53 : decode prog_8_method_6_code 53 = .ok (.aload_n 0, 1) := by decide +kernel
theorem d_Rounds_waysOfAll_54 : decode prog_8_method_6_code 54 = .ok (.iload 7, 2) := by decide +kernel
theorem d_Rounds_waysOfAll_56 : decode prog_8_method_6_code 56 = .ok (.iload_n 3, 1) := by decide +kernel
theorem d_Rounds_waysOfAll_57 : decode prog_8_method_6_code 57 = .ok (.aload_n 0, 1) := by decide +kernel
theorem d_Rounds_waysOfAll_58 : decode prog_8_method_6_code 58 = .ok (.getfield 9, 3) := by decide +kernel
theorem d_Rounds_waysOfAll_61 : decode prog_8_method_6_code 61 = .ok (.iload_n 2, 1) := by decide +kernel
theorem d_Rounds_waysOfAll_62 : decode prog_8_method_6_code 62 = .ok (.invokevirtual 39, 3) := by decide +kernel
theorem d_Rounds_waysOfAll_65 : decode prog_8_method_6_code 65 = .ok (.aload_n 1, 1) := by decide +kernel
theorem d_Rounds_waysOfAll_66 : decode prog_8_method_6_code 66 = .ok (.iconst 3, 1) := by decide +kernel
theorem d_Rounds_waysOfAll_67 : decode prog_8_method_6_code 67 = .ok (.iload 6, 2) := by decide +kernel
theorem d_Rounds_waysOfAll_69 : decode prog_8_method_6_code 69 = .ok (.imul, 1) := by decide +kernel
theorem d_Rounds_waysOfAll_70 : decode prog_8_method_6_code 70 = .ok (.iconst 2, 1) := by decide +kernel
theorem d_Rounds_waysOfAll_71 : decode prog_8_method_6_code 71 = .ok (.iadd, 1) := by decide +kernel
theorem d_Rounds_waysOfAll_72 : decode prog_8_method_6_code 72 = .ok (.invokevirtual 25, 3) := by decide +kernel
theorem d_Rounds_waysOfAll_75 : decode prog_8_method_6_code 75 = .ok (.l2i, 1) := by decide +kernel
theorem d_Rounds_waysOfAll_76 : decode prog_8_method_6_code 76 = .ok (.invokevirtual 42, 3) := by decide +kernel
theorem d_Rounds_waysOfAll_79 : decode prog_8_method_6_code 79 = .ok (.i2l, 1) := by decide +kernel
theorem d_Rounds_waysOfAll_80 : decode prog_8_method_6_code 80 = .ok (.lmul, 1) := by decide +kernel
theorem d_Rounds_waysOfAll_81 : decode prog_8_method_6_code 81 = .ok (.lstore 4, 2) := by decide +kernel
theorem d_Rounds_waysOfAll_83 : decode prog_8_method_6_code 83 = .ok (.iinc 6 1, 3) := by decide +kernel
theorem d_Rounds_waysOfAll_86 : decode prog_8_method_6_code 86 = .ok (.goto (-80), 3) := by decide +kernel
theorem d_Rounds_waysOfAll_89 : decode prog_8_method_6_code 89 = .ok (.lload 4, 2) := by decide +kernel
theorem d_Rounds_waysOfAll_91 : decode prog_8_method_6_code 91 = .ok (.lreturn, 1) := by decide +kernel
theorem b_Rounds_waysOfAll_0 {d : Nat} {a1 : Nat} {x2 : Int32} {x3 : Int32} {h : am_H} {Q : am_Q} (sa1 : am_shf a1) (k : am_W (X_Rounds_waysOfAll d) 6 [some (.ref 17), some (.ref a1), some (.int x2), some (.int x3), some (.long 1), none, some (.int 0), none] [] h Q) : am_W (X_Rounds_waysOfAll d) 0 [some (.ref 17), some (.ref a1), some (.int x2), some (.int x3), none, none, none, none] [] h Q :=
  am_lconst (v := 1) d_Rounds_waysOfAll_0 (by decide) <|
    am_lstore (ls' := [some (.ref 17), some (.ref a1), some (.int x2), some (.int x3), some (.long 1), none, none, none]) d_Rounds_waysOfAll_1 (Nat.le_of_ble_eq_true rfl) rfl <|
    am_iconst (v := 0) d_Rounds_waysOfAll_3 (by decide) <|
    am_istore (ls' := [some (.ref 17), some (.ref a1), some (.int x2), some (.int x3), some (.long 1), none, some (.int 0), none]) d_Rounds_waysOfAll_4 (Nat.le_of_ble_eq_true rfl) rfl <|
    k
theorem b_Rounds_waysOfAll_6 {d : Nat} {a1 : Nat} {x2 : Int32} {x3 : Int32} {x4 : Int64} {x6 : Int32} {h : am_H} {Q : am_Q} (sa1 : am_shf a1) (k : m_Shelf_length d [.ref a1] h (fun r hh => am_W (X_Rounds_waysOfAll (d + 1)) 12 [some (.ref 17), some (.ref a1), some (.int x2), some (.int x3), some (.long x4), none, some (.int x6), none] (r.toList ++ [.int x6]) hh Q)) : am_W (X_Rounds_waysOfAll (d + 1)) 6 [some (.ref 17), some (.ref a1), some (.int x2), some (.int x3), some (.long x4), none, some (.int x6), none] [] h Q :=
  am_iload d_Rounds_waysOfAll_6 rfl <|
    am_aload_n d_Rounds_waysOfAll_8 rfl (i := 1) rfl <|
    am_callV (vs := []) (st := [.int x6]) (k := a1) (ci := 9) rfl d_Rounds_waysOfAll_9 rfl sa1.1 w_952 w_953 w_954 w_93 w_955 p_Shelf_length (Nat.le_of_ble_eq_true rfl) (Nat.le_of_ble_eq_true rfl) rfl k
theorem b_Rounds_waysOfAll_12 {d : Nat} {a1 : Nat} {x2 : Int32} {x3 : Int32} {x4 : Int64} {x6 : Int32} {y1 : Int32} {y0 : Int32} {h : am_H} {Q : am_Q} (sa1 : am_shf a1) (kt : (y1 / 3) ≤ y0 → am_W (X_Rounds_waysOfAll d) 89 [some (.ref 17), some (.ref a1), some (.int x2), some (.int x3), some (.long x4), none, some (.int x6), none] [] h Q) (kf : ¬ (y1 / 3) ≤ y0 → am_W (X_Rounds_waysOfAll d) 17 [some (.ref 17), some (.ref a1), some (.int x2), some (.int x3), some (.long x4), none, some (.int x6), none] [] h Q) : am_W (X_Rounds_waysOfAll d) 12 [some (.ref 17), some (.ref a1), some (.int x2), some (.int x3), some (.long x4), none, some (.int x6), none] [.int y1, .int y0] h Q :=
  am_iconst (v := 3) d_Rounds_waysOfAll_12 (by decide) <|
    am_idiv d_Rounds_waysOfAll_13 (by decide) <|
    am_icmp_ge (tgt := 89) d_Rounds_waysOfAll_14 (by decide) kt kf
theorem b_Rounds_waysOfAll_17 {d : Nat} {a1 : Nat} {x2 : Int32} {x3 : Int32} {x4 : Int64} {x6 : Int32} {h : am_H} {Q : am_Q} (sa1 : am_shf a1) (kt : x4 ≤ 0 → am_W (X_Rounds_waysOfAll d) 89 [some (.ref 17), some (.ref a1), some (.int x2), some (.int x3), some (.long x4), none, some (.int x6), none] [] h Q) (kf : ¬ x4 ≤ 0 → am_W (X_Rounds_waysOfAll d) 24 [some (.ref 17), some (.ref a1), some (.int x2), some (.int x3), some (.long x4), none, some (.int x6), none] [] h Q) : am_W (X_Rounds_waysOfAll d) 17 [some (.ref 17), some (.ref a1), some (.int x2), some (.int x3), some (.long x4), none, some (.int x6), none] [] h Q :=
  am_lload d_Rounds_waysOfAll_17 rfl <|
    am_lconst (v := 0) d_Rounds_waysOfAll_19 (by decide) <|
    am_lc_if_le (tgt := 89) d_Rounds_waysOfAll_20 d_Rounds_waysOfAll_21 (by decide) kt kf
theorem b_Rounds_waysOfAll_24 {d : Nat} {a1 : Nat} {x2 : Int32} {x3 : Int32} {x4 : Int64} {x6 : Int32} {h : am_H} {Q : am_Q} (sa1 : am_shf a1) (k : m_Shelf_read d [.ref a1, .int ((3 * x6) + 1)] h (fun r hh => am_W (X_Rounds_waysOfAll (d + 1)) 34 [some (.ref 17), some (.ref a1), some (.int x2), some (.int x3), some (.long x4), none, some (.int x6), none] (r.toList ++ []) hh Q)) : am_W (X_Rounds_waysOfAll (d + 1)) 24 [some (.ref 17), some (.ref a1), some (.int x2), some (.int x3), some (.long x4), none, some (.int x6), none] [] h Q :=
  am_aload_n d_Rounds_waysOfAll_24 rfl (i := 1) rfl <|
    am_iconst (v := 3) d_Rounds_waysOfAll_25 (by decide) <|
    am_iload d_Rounds_waysOfAll_26 rfl <|
    am_imul d_Rounds_waysOfAll_28 <|
    am_iconst (v := 1) d_Rounds_waysOfAll_29 (by decide) <|
    am_iadd d_Rounds_waysOfAll_30 <|
    am_callV (vs := [.int ((3 * x6) + 1)]) (st := []) (k := a1) (ci := 9) rfl d_Rounds_waysOfAll_31 rfl sa1.1 w_956 w_452 w_453 w_93 w_454 p_Shelf_read (Nat.le_of_ble_eq_true rfl) (Nat.le_of_ble_eq_true rfl) rfl k
theorem b_Rounds_waysOfAll_34 {d : Nat} {a1 : Nat} {x2 : Int32} {x3 : Int32} {x4 : Int64} {x6 : Int32} {y0 : Int64} {h : am_H} {Q : am_Q} (sa1 : am_shf a1) (kt : ¬ y0 = x2.toInt64 → am_W (X_Rounds_waysOfAll d) 83 [some (.ref 17), some (.ref a1), some (.int x2), some (.int x3), some (.long x4), none, some (.int x6), none] [] h Q) (kf : y0 = x2.toInt64 → am_W (X_Rounds_waysOfAll d) 40 [some (.ref 17), some (.ref a1), some (.int x2), some (.int x3), some (.long x4), none, some (.int x6), none] [] h Q) : am_W (X_Rounds_waysOfAll d) 34 [some (.ref 17), some (.ref a1), some (.int x2), some (.int x3), some (.long x4), none, some (.int x6), none] [.long y0] h Q :=
  am_iload_n d_Rounds_waysOfAll_34 rfl (i := 2) rfl <|
    am_i2l d_Rounds_waysOfAll_35 <|
    am_lc_if_ne (tgt := 83) d_Rounds_waysOfAll_36 d_Rounds_waysOfAll_37 (by decide) kt kf
theorem b_Rounds_waysOfAll_40 {d : Nat} {a1 : Nat} {x2 : Int32} {x3 : Int32} {x4 : Int64} {x6 : Int32} {h : am_H} {Q : am_Q} (sa1 : am_shf a1) (k : m_Shelf_read d [.ref a1, .int (3 * x6)] h (fun r hh => am_W (X_Rounds_waysOfAll (d + 1)) 48 [some (.ref 17), some (.ref a1), some (.int x2), some (.int x3), some (.long x4), none, some (.int x6), none] (r.toList ++ []) hh Q)) : am_W (X_Rounds_waysOfAll (d + 1)) 40 [some (.ref 17), some (.ref a1), some (.int x2), some (.int x3), some (.long x4), none, some (.int x6), none] [] h Q :=
  am_aload_n d_Rounds_waysOfAll_40 rfl (i := 1) rfl <|
    am_iconst (v := 3) d_Rounds_waysOfAll_41 (by decide) <|
    am_iload d_Rounds_waysOfAll_42 rfl <|
    am_imul d_Rounds_waysOfAll_44 <|
    am_callV (vs := [.int (3 * x6)]) (st := []) (k := a1) (ci := 9) rfl d_Rounds_waysOfAll_45 rfl sa1.1 w_956 w_452 w_453 w_93 w_454 p_Shelf_read (Nat.le_of_ble_eq_true rfl) (Nat.le_of_ble_eq_true rfl) rfl k
theorem b_Rounds_waysOfAll_48 {d : Nat} {a1 : Nat} {x2 : Int32} {x3 : Int32} {x4 : Int64} {x6 : Int32} {y0 : Int64} {h : am_H} {Q : am_Q} (sa1 : am_shf a1) (k : m_Hole_spreadOf d [.ref 1, .int x2] h (fun r hh => am_W (X_Rounds_waysOfAll (d + 1)) 65 [some (.ref 17), some (.ref a1), some (.int x2), some (.int x3), some (.long x4), none, some (.int x6), some (.int y0.toInt32)] (r.toList ++ [.int x3, .int y0.toInt32, .ref 17, .long x4]) hh Q)) : am_W (X_Rounds_waysOfAll (d + 1)) 48 [some (.ref 17), some (.ref a1), some (.int x2), some (.int x3), some (.long x4), none, some (.int x6), none] [.long y0] h Q :=
  am_l2i d_Rounds_waysOfAll_48 <|
    am_istore (ls' := [some (.ref 17), some (.ref a1), some (.int x2), some (.int x3), some (.long x4), none, some (.int x6), some (.int y0.toInt32)]) d_Rounds_waysOfAll_49 (Nat.le_of_ble_eq_true rfl) rfl <|
    am_lload d_Rounds_waysOfAll_51 rfl <|
    am_aload_n d_Rounds_waysOfAll_53 rfl (i := 0) rfl <|
    am_iload d_Rounds_waysOfAll_54 rfl <|
    am_iload_n d_Rounds_waysOfAll_56 rfl (i := 3) rfl <|
    am_aload_n d_Rounds_waysOfAll_57 rfl (i := 0) rfl <|
    am_getR (ci := 4) (i := 0) rfl rfl rfl (Nat.le_of_ble_eq_true rfl) w_247 d_Rounds_waysOfAll_58 <|
    am_iload_n d_Rounds_waysOfAll_61 rfl (i := 2) rfl <|
    am_callV (vs := [.int x2]) (st := [.int x3, .int y0.toInt32, .ref 17, .long x4]) (k := 1) (ci := 1) rfl d_Rounds_waysOfAll_62 rfl rfl w_959 w_689 w_690 w_84 w_691 p_Hole_spreadOf (Nat.le_of_ble_eq_true rfl) (Nat.le_of_ble_eq_true rfl) rfl k
theorem b_Rounds_waysOfAll_65 {d : Nat} {a1 : Nat} {x2 : Int32} {x3 : Int32} {x4 : Int64} {x6 : Int32} {x7 : Int32} {y4 : Int32} {y3 : Int32} {y2 : Int32} {y0 : Int64} {h : am_H} {Q : am_Q} (sa1 : am_shf a1) (k : m_Shelf_read d [.ref a1, .int ((3 * x6) + 2)] h (fun r hh => am_W (X_Rounds_waysOfAll (d + 1)) 75 [some (.ref 17), some (.ref a1), some (.int x2), some (.int x3), some (.long x4), none, some (.int x6), some (.int x7)] (r.toList ++ [.int y4, .int y3, .int y2, .ref 17, .long y0]) hh Q)) : am_W (X_Rounds_waysOfAll (d + 1)) 65 [some (.ref 17), some (.ref a1), some (.int x2), some (.int x3), some (.long x4), none, some (.int x6), some (.int x7)] [.int y4, .int y3, .int y2, .ref 17, .long y0] h Q :=
  am_aload_n d_Rounds_waysOfAll_65 rfl (i := 1) rfl <|
    am_iconst (v := 3) d_Rounds_waysOfAll_66 (by decide) <|
    am_iload d_Rounds_waysOfAll_67 rfl <|
    am_imul d_Rounds_waysOfAll_69 <|
    am_iconst (v := 2) d_Rounds_waysOfAll_70 (by decide) <|
    am_iadd d_Rounds_waysOfAll_71 <|
    am_callV (vs := [.int ((3 * x6) + 2)]) (st := [.int y4, .int y3, .int y2, .ref 17, .long y0]) (k := a1) (ci := 9) rfl d_Rounds_waysOfAll_72 rfl sa1.1 w_956 w_452 w_453 w_93 w_454 p_Shelf_read (Nat.le_of_ble_eq_true rfl) (Nat.le_of_ble_eq_true rfl) rfl k
theorem b_Rounds_waysOfAll_75 {d : Nat} {a1 : Nat} {x2 : Int32} {x3 : Int32} {x4 : Int64} {x6 : Int32} {x7 : Int32} {y5 : Int64} {y4 : Int32} {y3 : Int32} {y2 : Int32} {y0 : Int64} {h : am_H} {Q : am_Q} (sa1 : am_shf a1) (k : m_Rounds_waysToBe d [.ref 17, .int y2, .int y3, .int y4, .int y5.toInt32] h (fun r hh => am_W (X_Rounds_waysOfAll (d + 1)) 79 [some (.ref 17), some (.ref a1), some (.int x2), some (.int x3), some (.long x4), none, some (.int x6), some (.int x7)] (r.toList ++ [.long y0]) hh Q)) : am_W (X_Rounds_waysOfAll (d + 1)) 75 [some (.ref 17), some (.ref a1), some (.int x2), some (.int x3), some (.long x4), none, some (.int x6), some (.int x7)] [.long y5, .int y4, .int y3, .int y2, .ref 17, .long y0] h Q :=
  am_l2i d_Rounds_waysOfAll_75 <|
    am_callV (vs := [.int y2, .int y3, .int y4, .int y5.toInt32]) (st := [.long y0]) (k := 17) (ci := 4) rfl d_Rounds_waysOfAll_76 rfl rfl w_960 w_962 w_24 w_88 w_963 p_Rounds_waysToBe (Nat.le_of_ble_eq_true rfl) (Nat.le_of_ble_eq_true rfl) rfl k
theorem b_Rounds_waysOfAll_79 {d : Nat} {a1 : Nat} {x2 : Int32} {x3 : Int32} {x4 : Int64} {x6 : Int32} {x7 : Int32} {y1 : Int32} {y0 : Int64} {h : am_H} {Q : am_Q} (sa1 : am_shf a1) (k : am_W (X_Rounds_waysOfAll d) 83 [some (.ref 17), some (.ref a1), some (.int x2), some (.int x3), some (.long (y0 * y1.toInt64)), none, some (.int x6), some (.int x7)] [] h Q) : am_W (X_Rounds_waysOfAll d) 79 [some (.ref 17), some (.ref a1), some (.int x2), some (.int x3), some (.long x4), none, some (.int x6), some (.int x7)] [.int y1, .long y0] h Q :=
  am_i2l d_Rounds_waysOfAll_79 <|
    am_lmul d_Rounds_waysOfAll_80 <|
    am_lstore (ls' := [some (.ref 17), some (.ref a1), some (.int x2), some (.int x3), some (.long (y0 * y1.toInt64)), none, some (.int x6), some (.int x7)]) d_Rounds_waysOfAll_81 (Nat.le_of_ble_eq_true rfl) rfl <|
    k
theorem b_Rounds_waysOfAll_83 {d : Nat} {a1 : Nat} {x2 : Int32} {x3 : Int32} {x4 : Int64} {x6 : Int32} {h : am_H} {Q : am_Q} (sa1 : am_shf a1) (k : am_W (X_Rounds_waysOfAll d) 6 [some (.ref 17), some (.ref a1), some (.int x2), some (.int x3), some (.long x4), none, some (.int (x6 + 1)), none] [] h Q) : am_W (X_Rounds_waysOfAll d) 83 [some (.ref 17), some (.ref a1), some (.int x2), some (.int x3), some (.long x4), none, some (.int x6), none] [] h Q :=
  am_iinc (v := (x6 + 1)) (ls' := [some (.ref 17), some (.ref a1), some (.int x2), some (.int x3), some (.long x4), none, some (.int (x6 + 1)), none]) d_Rounds_waysOfAll_83 rfl rfl (Nat.le_of_ble_eq_true rfl) rfl <|
    am_goto (tgt := 6) d_Rounds_waysOfAll_86 (by decide) k
theorem b_Rounds_waysOfAll_89 {d : Nat} {a1 : Nat} {x2 : Int32} {x3 : Int32} {x4 : Int64} {x6 : Int32} {h : am_H} {Q : am_Q} (sa1 : am_shf a1) (q : Q (some (.long x4)) h) : am_W (X_Rounds_waysOfAll d) 89 [some (.ref 17), some (.ref a1), some (.int x2), some (.int x3), some (.long x4), none, some (.int x6), none] [] h Q :=
  am_lload d_Rounds_waysOfAll_89 rfl <|
    am_lret rfl d_Rounds_waysOfAll_91 q
theorem t_Rounds_waysOfAll_89 {d : Nat} {a1 : Nat} {x2 : Int32} {x3 : Int32} {x4 : Int64} {x6 : Int32} {h : am_H} {Q : am_Q} {res : Int64} (sa1 : am_shf a1) (e : f_Rounds_waysOfAll_89 h x4 = some res) (q : Q (some (.long res)) h) : am_W (X_Rounds_waysOfAll (d + 4)) 89 [some (.ref 17), some (.ref a1), some (.int x2), some (.int x3), some (.long x4), none, some (.int x6), none] [] h Q :=
  b_Rounds_waysOfAll_89 (d := (d + 4)) (sa1 := sa1) (q := (am_rJp (v := x4) e q))
theorem t_Rounds_waysOfAll_83 {d : Nat} {k6 : Nat → Int32 → Int32 → Int64 → Int32 → Option (Int64)} {a1 : Nat} {x2 : Int32} {x3 : Int32} {x4 : Int64} {x6 : Int32} {h : am_H} {Q : am_Q} {res : Int64} (hk6 : ∀ (a1 : Nat) (x2 : Int32) (x3 : Int32) (x4 : Int64) (x6 : Int32), am_shf a1 → k6 a1 x2 x3 x4 x6 = some res → am_W (X_Rounds_waysOfAll (d + 4)) 6 [some (.ref 17), some (.ref a1), some (.int x2), some (.int x3), some (.long x4), none, some (.int x6), none] [] h Q) (sa1 : am_shf a1) (e : f_Rounds_waysOfAll_83 k6 h a1 x2 x3 x4 x6 = some res) (q : Q (some (.long res)) h) : am_W (X_Rounds_waysOfAll (d + 4)) 83 [some (.ref 17), some (.ref a1), some (.int x2), some (.int x3), some (.long x4), none, some (.int x6), none] [] h Q :=
  b_Rounds_waysOfAll_83 (d := (d + 4)) (sa1 := sa1) (k := (hk6 _ _ _ _ _ sa1 e))
theorem t_Rounds_waysOfAll_79 {d : Nat} {k6 : Nat → Int32 → Int32 → Int64 → Int32 → Option (Int64)} {a1 : Nat} {x2 : Int32} {x3 : Int32} {x4 : Int64} {x6 : Int32} {x7 : Int32} {y1 : Int32} {y0 : Int64} {h : am_H} {Q : am_Q} {res : Int64} (hk6 : ∀ (a1 : Nat) (x2 : Int32) (x3 : Int32) (x4 : Int64) (x6 : Int32), am_shf a1 → k6 a1 x2 x3 x4 x6 = some res → am_W (X_Rounds_waysOfAll (d + 4)) 6 [some (.ref 17), some (.ref a1), some (.int x2), some (.int x3), some (.long x4), none, some (.int x6), none] [] h Q) (sa1 : am_shf a1) (e : f_Rounds_waysOfAll_79 k6 h a1 x2 x3 x6 y1 y0 = some res) (q : Q (some (.long res)) h) : am_W (X_Rounds_waysOfAll (d + 4)) 79 [some (.ref 17), some (.ref a1), some (.int x2), some (.int x3), some (.long x4), none, some (.int x6), some (.int x7)] [.int y1, .long y0] h Q :=
  b_Rounds_waysOfAll_79 (d := (d + 4)) (sa1 := sa1) (k := (am_wk2 (t_Rounds_waysOfAll_83 hk6 sa1 e q) ⟨rfl, ⟨rfl, ⟨rfl, ⟨rfl, ⟨rfl, ⟨rfl, trivial⟩⟩⟩⟩⟩⟩))
theorem t_Rounds_waysOfAll_75 {d : Nat} {k6 : Nat → Int32 → Int32 → Int64 → Int32 → Option (Int64)} {a1 : Nat} {x2 : Int32} {x3 : Int32} {x4 : Int64} {x6 : Int32} {x7 : Int32} {y5 : Int64} {y4 : Int32} {y3 : Int32} {y2 : Int32} {y0 : Int64} {h : am_H} {Q : am_Q} {res : Int64} (hk6 : ∀ (a1 : Nat) (x2 : Int32) (x3 : Int32) (x4 : Int64) (x6 : Int32), am_shf a1 → k6 a1 x2 x3 x4 x6 = some res → am_W (X_Rounds_waysOfAll (d + 4)) 6 [some (.ref 17), some (.ref a1), some (.int x2), some (.int x3), some (.long x4), none, some (.int x6), none] [] h Q) (sa1 : am_shf a1) (e : f_Rounds_waysOfAll_75 k6 h a1 x2 x3 x6 y5 y4 y3 y2 y0 = some res) (q : Q (some (.long res)) h) : am_W (X_Rounds_waysOfAll (d + 4)) 75 [some (.ref 17), some (.ref a1), some (.int x2), some (.int x3), some (.long x4), none, some (.int x6), some (.int x7)] [.long y5, .int y4, .int y3, .int y2, .ref 17, .long y0] h Q :=
  (am_bd e).elim fun p hp => b_Rounds_waysOfAll_75 (d := (d + 3)) (sa1 := sa1) (k := c_Rounds_waysToBe (d := d) hp.1 (t_Rounds_waysOfAll_79 hk6 sa1 hp.2 q))
theorem t_Rounds_waysOfAll_65 {d : Nat} {k6 : Nat → Int32 → Int32 → Int64 → Int32 → Option (Int64)} {a1 : Nat} {x2 : Int32} {x3 : Int32} {x4 : Int64} {x6 : Int32} {x7 : Int32} {y4 : Int32} {y3 : Int32} {y2 : Int32} {y0 : Int64} {h : am_H} {Q : am_Q} {res : Int64} (hk6 : ∀ (a1 : Nat) (x2 : Int32) (x3 : Int32) (x4 : Int64) (x6 : Int32), am_shf a1 → k6 a1 x2 x3 x4 x6 = some res → am_W (X_Rounds_waysOfAll (d + 4)) 6 [some (.ref 17), some (.ref a1), some (.int x2), some (.int x3), some (.long x4), none, some (.int x6), none] [] h Q) (sa1 : am_shf a1) (e : f_Rounds_waysOfAll_65 k6 h a1 x2 x3 x6 y4 y3 y2 y0 = some res) (q : Q (some (.long res)) h) : am_W (X_Rounds_waysOfAll (d + 4)) 65 [some (.ref 17), some (.ref a1), some (.int x2), some (.int x3), some (.long x4), none, some (.int x6), some (.int x7)] [.int y4, .int y3, .int y2, .ref 17, .long y0] h Q :=
  (am_bd e).elim fun p hp => b_Rounds_waysOfAll_65 (d := (d + 3)) (sa1 := sa1) (k := c_Shelf_read (d := d + 3) sa1 hp.1 (t_Rounds_waysOfAll_75 hk6 sa1 hp.2 q))
theorem t_Rounds_waysOfAll_48 {d : Nat} {k6 : Nat → Int32 → Int32 → Int64 → Int32 → Option (Int64)} {a1 : Nat} {x2 : Int32} {x3 : Int32} {x4 : Int64} {x6 : Int32} {y0 : Int64} {h : am_H} {Q : am_Q} {res : Int64} (hk6 : ∀ (a1 : Nat) (x2 : Int32) (x3 : Int32) (x4 : Int64) (x6 : Int32), am_shf a1 → k6 a1 x2 x3 x4 x6 = some res → am_W (X_Rounds_waysOfAll (d + 4)) 6 [some (.ref 17), some (.ref a1), some (.int x2), some (.int x3), some (.long x4), none, some (.int x6), none] [] h Q) (sa1 : am_shf a1) (e : f_Rounds_waysOfAll_48 k6 h a1 x2 x3 x4 x6 y0 = some res) (q : Q (some (.long res)) h) : am_W (X_Rounds_waysOfAll (d + 4)) 48 [some (.ref 17), some (.ref a1), some (.int x2), some (.int x3), some (.long x4), none, some (.int x6), none] [.long y0] h Q :=
  (am_bd e).elim fun p hp => b_Rounds_waysOfAll_48 (d := (d + 3)) (sa1 := sa1) (k := c_Hole_spreadOf (d := d + 2) hp.1 (t_Rounds_waysOfAll_65 hk6 sa1 hp.2 q))
theorem t_Rounds_waysOfAll_40 {d : Nat} {k6 : Nat → Int32 → Int32 → Int64 → Int32 → Option (Int64)} {a1 : Nat} {x2 : Int32} {x3 : Int32} {x4 : Int64} {x6 : Int32} {h : am_H} {Q : am_Q} {res : Int64} (hk6 : ∀ (a1 : Nat) (x2 : Int32) (x3 : Int32) (x4 : Int64) (x6 : Int32), am_shf a1 → k6 a1 x2 x3 x4 x6 = some res → am_W (X_Rounds_waysOfAll (d + 4)) 6 [some (.ref 17), some (.ref a1), some (.int x2), some (.int x3), some (.long x4), none, some (.int x6), none] [] h Q) (sa1 : am_shf a1) (e : f_Rounds_waysOfAll_40 k6 h a1 x2 x3 x4 x6 = some res) (q : Q (some (.long res)) h) : am_W (X_Rounds_waysOfAll (d + 4)) 40 [some (.ref 17), some (.ref a1), some (.int x2), some (.int x3), some (.long x4), none, some (.int x6), none] [] h Q :=
  (am_bd e).elim fun p hp => b_Rounds_waysOfAll_40 (d := (d + 3)) (sa1 := sa1) (k := c_Shelf_read (d := d + 3) sa1 hp.1 (t_Rounds_waysOfAll_48 hk6 sa1 hp.2 q))
theorem t_Rounds_waysOfAll_34 {d : Nat} {k6 : Nat → Int32 → Int32 → Int64 → Int32 → Option (Int64)} {a1 : Nat} {x2 : Int32} {x3 : Int32} {x4 : Int64} {x6 : Int32} {y0 : Int64} {h : am_H} {Q : am_Q} {res : Int64} (hk6 : ∀ (a1 : Nat) (x2 : Int32) (x3 : Int32) (x4 : Int64) (x6 : Int32), am_shf a1 → k6 a1 x2 x3 x4 x6 = some res → am_W (X_Rounds_waysOfAll (d + 4)) 6 [some (.ref 17), some (.ref a1), some (.int x2), some (.int x3), some (.long x4), none, some (.int x6), none] [] h Q) (sa1 : am_shf a1) (e : f_Rounds_waysOfAll_34 k6 h a1 x2 x3 x4 x6 y0 = some res) (q : Q (some (.long res)) h) : am_W (X_Rounds_waysOfAll (d + 4)) 34 [some (.ref 17), some (.ref a1), some (.int x2), some (.int x3), some (.long x4), none, some (.int x6), none] [.long y0] h Q :=
  b_Rounds_waysOfAll_34 (d := (d + 4)) (sa1 := sa1) (kt := fun c => (t_Rounds_waysOfAll_83 hk6 sa1 (am_ife e c) q)) (kf := fun c => (t_Rounds_waysOfAll_40 hk6 sa1 (am_ift e c) q))
theorem t_Rounds_waysOfAll_24 {d : Nat} {k6 : Nat → Int32 → Int32 → Int64 → Int32 → Option (Int64)} {a1 : Nat} {x2 : Int32} {x3 : Int32} {x4 : Int64} {x6 : Int32} {h : am_H} {Q : am_Q} {res : Int64} (hk6 : ∀ (a1 : Nat) (x2 : Int32) (x3 : Int32) (x4 : Int64) (x6 : Int32), am_shf a1 → k6 a1 x2 x3 x4 x6 = some res → am_W (X_Rounds_waysOfAll (d + 4)) 6 [some (.ref 17), some (.ref a1), some (.int x2), some (.int x3), some (.long x4), none, some (.int x6), none] [] h Q) (sa1 : am_shf a1) (e : f_Rounds_waysOfAll_24 k6 h a1 x2 x3 x4 x6 = some res) (q : Q (some (.long res)) h) : am_W (X_Rounds_waysOfAll (d + 4)) 24 [some (.ref 17), some (.ref a1), some (.int x2), some (.int x3), some (.long x4), none, some (.int x6), none] [] h Q :=
  (am_bd e).elim fun p hp => b_Rounds_waysOfAll_24 (d := (d + 3)) (sa1 := sa1) (k := c_Shelf_read (d := d + 3) sa1 hp.1 (t_Rounds_waysOfAll_34 hk6 sa1 hp.2 q))
theorem t_Rounds_waysOfAll_17 {d : Nat} {k6 : Nat → Int32 → Int32 → Int64 → Int32 → Option (Int64)} {a1 : Nat} {x2 : Int32} {x3 : Int32} {x4 : Int64} {x6 : Int32} {h : am_H} {Q : am_Q} {res : Int64} (hk6 : ∀ (a1 : Nat) (x2 : Int32) (x3 : Int32) (x4 : Int64) (x6 : Int32), am_shf a1 → k6 a1 x2 x3 x4 x6 = some res → am_W (X_Rounds_waysOfAll (d + 4)) 6 [some (.ref 17), some (.ref a1), some (.int x2), some (.int x3), some (.long x4), none, some (.int x6), none] [] h Q) (sa1 : am_shf a1) (e : f_Rounds_waysOfAll_17 k6 h a1 x2 x3 x4 x6 = some res) (q : Q (some (.long res)) h) : am_W (X_Rounds_waysOfAll (d + 4)) 17 [some (.ref 17), some (.ref a1), some (.int x2), some (.int x3), some (.long x4), none, some (.int x6), none] [] h Q :=
  b_Rounds_waysOfAll_17 (d := (d + 4)) (sa1 := sa1) (kt := fun c => (t_Rounds_waysOfAll_89 sa1 (am_ift e c) q)) (kf := fun c => (t_Rounds_waysOfAll_24 hk6 sa1 (am_ife e c) q))
theorem t_Rounds_waysOfAll_12 {d : Nat} {k6 : Nat → Int32 → Int32 → Int64 → Int32 → Option (Int64)} {a1 : Nat} {x2 : Int32} {x3 : Int32} {x4 : Int64} {x6 : Int32} {y1 : Int32} {y0 : Int32} {h : am_H} {Q : am_Q} {res : Int64} (hk6 : ∀ (a1 : Nat) (x2 : Int32) (x3 : Int32) (x4 : Int64) (x6 : Int32), am_shf a1 → k6 a1 x2 x3 x4 x6 = some res → am_W (X_Rounds_waysOfAll (d + 4)) 6 [some (.ref 17), some (.ref a1), some (.int x2), some (.int x3), some (.long x4), none, some (.int x6), none] [] h Q) (sa1 : am_shf a1) (e : f_Rounds_waysOfAll_12 k6 h a1 x2 x3 x4 x6 y1 y0 = some res) (q : Q (some (.long res)) h) : am_W (X_Rounds_waysOfAll (d + 4)) 12 [some (.ref 17), some (.ref a1), some (.int x2), some (.int x3), some (.long x4), none, some (.int x6), none] [.int y1, .int y0] h Q :=
  b_Rounds_waysOfAll_12 (d := (d + 4)) (sa1 := sa1) (kt := fun c => (t_Rounds_waysOfAll_89 sa1 (am_ift e c) q)) (kf := fun c => (t_Rounds_waysOfAll_17 hk6 sa1 (am_ife e c) q))
theorem t_Rounds_waysOfAll_6 {d : Nat} {k6 : Nat → Int32 → Int32 → Int64 → Int32 → Option (Int64)} {a1 : Nat} {x2 : Int32} {x3 : Int32} {x4 : Int64} {x6 : Int32} {h : am_H} {Q : am_Q} {res : Int64} (hk6 : ∀ (a1 : Nat) (x2 : Int32) (x3 : Int32) (x4 : Int64) (x6 : Int32), am_shf a1 → k6 a1 x2 x3 x4 x6 = some res → am_W (X_Rounds_waysOfAll (d + 4)) 6 [some (.ref 17), some (.ref a1), some (.int x2), some (.int x3), some (.long x4), none, some (.int x6), none] [] h Q) (sa1 : am_shf a1) (e : f_Rounds_waysOfAll_6 k6 h a1 x2 x3 x4 x6 = some res) (q : Q (some (.long res)) h) : am_W (X_Rounds_waysOfAll (d + 4)) 6 [some (.ref 17), some (.ref a1), some (.int x2), some (.int x3), some (.long x4), none, some (.int x6), none] [] h Q :=
  b_Rounds_waysOfAll_6 (d := (d + 3)) (sa1 := sa1) (k := c_Shelf_length (d := d + 3) sa1 rfl (t_Rounds_waysOfAll_12 hk6 sa1 e q))
theorem t_Rounds_waysOfAll_6_l {d : Nat} {h : am_H} {Q : am_Q} {res : Int64} (q : Q (some (.long res)) h) : ∀ (n : Nat) (a1 : Nat) (x2 : Int32) (x3 : Int32) (x4 : Int64) (x6 : Int32), am_shf a1 → f_Rounds_waysOfAll_6_l h n a1 x2 x3 x4 x6 = some res → am_W (X_Rounds_waysOfAll (d + 4)) 6 [some (.ref 17), some (.ref a1), some (.int x2), some (.int x3), some (.long x4), none, some (.int x6), none] [] h Q := by
  intro n
  induction n with
  | zero => intro a1 x2 x3 x4 x6 sa1 e; exact am_nn e
  | succ n ih => intro a1 x2 x3 x4 x6 sa1 e; exact t_Rounds_waysOfAll_6 (fun a1 x2 x3 x4 x6 sa1 e => ih a1 x2 x3 x4 x6 sa1 e) sa1 e q
theorem t_Rounds_waysOfAll_0 {d : Nat} {a1 : Nat} {x2 : Int32} {x3 : Int32} {h : am_H} {Q : am_Q} {res : Int64} (sa1 : am_shf a1) (e : f_Rounds_waysOfAll h a1 x2 x3 = some res) (q : Q (some (.long res)) h) : am_W (X_Rounds_waysOfAll (d + 4)) 0 [some (.ref 17), some (.ref a1), some (.int x2), some (.int x3), none, none, none, none] [] h Q :=
  b_Rounds_waysOfAll_0 (d := (d + 4)) (sa1 := sa1) (k := (t_Rounds_waysOfAll_6_l q am_fu _ _ _ _ _ sa1 e))
theorem c_Rounds_waysOfAll {d : Nat} {a1 : Nat} {x2 : Int32} {x3 : Int32} {h : am_H} {Q : am_Q} {res : Int64} (sa1 : am_shf a1) (e : f_Rounds_waysOfAll h a1 x2 x3 = some res) (q : Q (some (.long res)) h) : m_Rounds_waysOfAll (d + 4) [.ref 17, .ref a1, .int x2, .int x3] h Q :=
  e_Rounds_waysOfAll (t_Rounds_waysOfAll_0 sa1 e q)
theorem d_Rounds_likeliestCarry_0 : decode prog_8_method_4_code 0 = .ok (.aload_n 0, 1) := by decide +kernel
theorem d_Rounds_likeliestCarry_1 : decode prog_8_method_4_code 1 = .ok (.aload_n 1, 1) := by decide +kernel
theorem d_Rounds_likeliestCarry_2 : decode prog_8_method_4_code 2 = .ok (.iload_n 2, 1) := by decide +kernel
theorem d_Rounds_likeliestCarry_3 : decode prog_8_method_4_code 3 = .ok (.invokevirtual 55, 3) := by decide +kernel
theorem d_Rounds_likeliestCarry_6 : decode prog_8_method_4_code 6 = .ok (.ifCond .ne 6, 3) := by decide +kernel
theorem d_Rounds_likeliestCarry_9 : decode prog_8_method_4_code 9 = .ok (.bipush (-2), 2) := by decide +kernel
theorem d_Rounds_likeliestCarry_11 : decode prog_8_method_4_code 11 = .ok (.ireturn, 1) := by decide +kernel
theorem d_Rounds_likeliestCarry_12 : decode prog_8_method_4_code 12 = .ok (.bipush (-2), 2) := by decide +kernel
theorem d_Rounds_likeliestCarry_14 : decode prog_8_method_4_code 14 = .ok (.istore_n 3, 1) := by decide +kernel
theorem d_Rounds_likeliestCarry_15 : decode prog_8_method_4_code 15 = .ok (.lconst 0, 1) := by decide +kernel
theorem d_Rounds_likeliestCarry_16 : decode prog_8_method_4_code 16 = .ok (.lstore 4, 2) := by decide +kernel
theorem d_Rounds_likeliestCarry_18 : decode prog_8_method_4_code 18 = .ok (.iconst 0, 1) := by decide +kernel
theorem d_Rounds_likeliestCarry_19 : decode prog_8_method_4_code 19 = .ok (.istore 6, 2) := by decide +kernel
theorem d_Rounds_likeliestCarry_21 : decode prog_8_method_4_code 21 = .ok (.iload 6, 2) := by decide +kernel
theorem d_Rounds_likeliestCarry_23 : decode prog_8_method_4_code 23 = .ok (.bipush 31, 2) := by decide +kernel
theorem d_Rounds_likeliestCarry_25 : decode prog_8_method_4_code 25 = .ok (.if_icmp .ge 34, 3) := by decide +kernel
theorem d_Rounds_likeliestCarry_28 : decode prog_8_method_4_code 28 = .ok (.aload_n 0, 1) := by decide +kernel
theorem d_Rounds_likeliestCarry_29 : decode prog_8_method_4_code 29 = .ok (.aload_n 1, 1) := by decide +kernel
theorem d_Rounds_likeliestCarry_30 : decode prog_8_method_4_code 30 = .ok (.iload_n 2, 1) := by decide +kernel
theorem d_Rounds_likeliestCarry_31 : decode prog_8_method_4_code 31 = .ok (.iload 6, 2) := by decide +kernel
theorem d_Rounds_likeliestCarry_33 : decode prog_8_method_4_code 33 = .ok (.invokevirtual 59, 3) := by decide +kernel
theorem d_Rounds_likeliestCarry_36 : decode prog_8_method_4_code 36 = .ok (.lstore 7, 2) := by decide +kernel
theorem d_Rounds_likeliestCarry_38 : decode prog_8_method_4_code 38 = .ok (.lload 7, 2) := by decide +kernel
theorem d_Rounds_likeliestCarry_40 : decode prog_8_method_4_code 40 = .ok (.lload 4, 2) := by decide +kernel
theorem d_Rounds_likeliestCarry_42 : decode prog_8_method_4_code 42 = .ok (.lcmp, 1) := by decide +kernel
theorem d_Rounds_likeliestCarry_43 : decode prog_8_method_4_code 43 = .ok (.ifCond .le 10, 3) := by decide +kernel
theorem d_Rounds_likeliestCarry_46 : decode prog_8_method_4_code 46 = .ok (.lload 7, 2) := by decide +kernel
theorem d_Rounds_likeliestCarry_48 : decode prog_8_method_4_code 48 = .ok (.lstore 4, 2) := by decide +kernel
theorem d_Rounds_likeliestCarry_50 : decode prog_8_method_4_code 50 = .ok (.iload 6, 2) := by decide +kernel
theorem d_Rounds_likeliestCarry_52 : decode prog_8_method_4_code 52 = .ok (.istore_n 3, 1) := by decide +kernel
theorem d_Rounds_likeliestCarry_53 : decode prog_8_method_4_code 53 = .ok (.iinc 6 1, 3) := by decide +kernel
theorem d_Rounds_likeliestCarry_56 : decode prog_8_method_4_code 56 = .ok (.goto (-35), 3) := by decide +kernel
theorem d_Rounds_likeliestCarry_59 : decode prog_8_method_4_code 59 = .ok (.iload_n 3, 1) := by decide +kernel
theorem d_Rounds_likeliestCarry_60 : decode prog_8_method_4_code 60 = .ok (.ireturn, 1) := by decide +kernel
theorem b_Rounds_likeliestCarry_0 {d : Nat} {a1 : Nat} {x2 : Int32} {h : am_H} {Q : am_Q} (sa1 : am_shf a1) (k : m_Rounds_isToldOf d [.ref 17, .ref a1, .int x2] h (fun r hh => am_W (X_Rounds_likeliestCarry (d + 1)) 6 [some (.ref 17), some (.ref a1), some (.int x2), none, none, none, none, none, none] (r.toList ++ []) hh Q)) : am_W (X_Rounds_likeliestCarry (d + 1)) 0 [some (.ref 17), some (.ref a1), some (.int x2), none, none, none, none, none, none] [] h Q :=
  am_aload_n d_Rounds_likeliestCarry_0 rfl (i := 0) rfl <|
    am_aload_n d_Rounds_likeliestCarry_1 rfl (i := 1) rfl <|
    am_iload_n d_Rounds_likeliestCarry_2 rfl (i := 2) rfl <|
    am_callV (vs := [.ref a1, .int x2]) (st := []) (k := 17) (ci := 4) rfl d_Rounds_likeliestCarry_3 rfl rfl w_975 w_977 w_25 w_88 w_978 p_Rounds_isToldOf (Nat.le_of_ble_eq_true rfl) (Nat.le_of_ble_eq_true rfl) rfl k
theorem b_Rounds_likeliestCarry_6 {d : Nat} {a1 : Nat} {x2 : Int32} {y0 : Bool} {h : am_H} {Q : am_Q} (sa1 : am_shf a1) (kt : ¬ (am_b y0) = 0 → am_W (X_Rounds_likeliestCarry d) 12 [some (.ref 17), some (.ref a1), some (.int x2), none, none, none, none, none, none] [] h Q) (kf : (am_b y0) = 0 → am_W (X_Rounds_likeliestCarry d) 9 [some (.ref 17), some (.ref a1), some (.int x2), none, none, none, none, none, none] [] h Q) : am_W (X_Rounds_likeliestCarry d) 6 [some (.ref 17), some (.ref a1), some (.int x2), none, none, none, none, none, none] [.int (am_b y0)] h Q :=
  am_if_ne (tgt := 12) d_Rounds_likeliestCarry_6 (by decide) kt kf
theorem b_Rounds_likeliestCarry_9 {d : Nat} {a1 : Nat} {x2 : Int32} {h : am_H} {Q : am_Q} (sa1 : am_shf a1) (q : Q (some (.int (-2))) h) : am_W (X_Rounds_likeliestCarry d) 9 [some (.ref 17), some (.ref a1), some (.int x2), none, none, none, none, none, none] [] h Q :=
  am_bipush (v := (-2)) d_Rounds_likeliestCarry_9 (by decide) <|
    am_iret rfl d_Rounds_likeliestCarry_11 q
theorem b_Rounds_likeliestCarry_12 {d : Nat} {a1 : Nat} {x2 : Int32} {h : am_H} {Q : am_Q} (sa1 : am_shf a1) (k : am_W (X_Rounds_likeliestCarry d) 21 [some (.ref 17), some (.ref a1), some (.int x2), some (.int (-2)), some (.long 0), none, some (.int 0), none, none] [] h Q) : am_W (X_Rounds_likeliestCarry d) 12 [some (.ref 17), some (.ref a1), some (.int x2), none, none, none, none, none, none] [] h Q :=
  am_bipush (v := (-2)) d_Rounds_likeliestCarry_12 (by decide) <|
    am_istore_n (ls' := [some (.ref 17), some (.ref a1), some (.int x2), some (.int (-2)), none, none, none, none, none]) d_Rounds_likeliestCarry_14 rfl (Nat.le_of_ble_eq_true rfl) rfl <|
    am_lconst (v := 0) d_Rounds_likeliestCarry_15 (by decide) <|
    am_lstore (ls' := [some (.ref 17), some (.ref a1), some (.int x2), some (.int (-2)), some (.long 0), none, none, none, none]) d_Rounds_likeliestCarry_16 (Nat.le_of_ble_eq_true rfl) rfl <|
    am_iconst (v := 0) d_Rounds_likeliestCarry_18 (by decide) <|
    am_istore (ls' := [some (.ref 17), some (.ref a1), some (.int x2), some (.int (-2)), some (.long 0), none, some (.int 0), none, none]) d_Rounds_likeliestCarry_19 (Nat.le_of_ble_eq_true rfl) rfl <|
    k
theorem b_Rounds_likeliestCarry_21 {d : Nat} {a1 : Nat} {x2 : Int32} {x3 : Int32} {x4 : Int64} {x6 : Int32} {h : am_H} {Q : am_Q} (sa1 : am_shf a1) (kt : 31 ≤ x6 → am_W (X_Rounds_likeliestCarry d) 59 [some (.ref 17), some (.ref a1), some (.int x2), some (.int x3), some (.long x4), none, some (.int x6), none, none] [] h Q) (kf : ¬ 31 ≤ x6 → am_W (X_Rounds_likeliestCarry d) 28 [some (.ref 17), some (.ref a1), some (.int x2), some (.int x3), some (.long x4), none, some (.int x6), none, none] [] h Q) : am_W (X_Rounds_likeliestCarry d) 21 [some (.ref 17), some (.ref a1), some (.int x2), some (.int x3), some (.long x4), none, some (.int x6), none, none] [] h Q :=
  am_iload d_Rounds_likeliestCarry_21 rfl <|
    am_bipush (v := 31) d_Rounds_likeliestCarry_23 (by decide) <|
    am_icmp_ge (tgt := 59) d_Rounds_likeliestCarry_25 (by decide) kt kf
theorem b_Rounds_likeliestCarry_28 {d : Nat} {a1 : Nat} {x2 : Int32} {x3 : Int32} {x4 : Int64} {x6 : Int32} {h : am_H} {Q : am_Q} (sa1 : am_shf a1) (k : m_Rounds_waysOfAll d [.ref 17, .ref a1, .int x2, .int x6] h (fun r hh => am_W (X_Rounds_likeliestCarry (d + 1)) 36 [some (.ref 17), some (.ref a1), some (.int x2), some (.int x3), some (.long x4), none, some (.int x6), none, none] (r.toList ++ []) hh Q)) : am_W (X_Rounds_likeliestCarry (d + 1)) 28 [some (.ref 17), some (.ref a1), some (.int x2), some (.int x3), some (.long x4), none, some (.int x6), none, none] [] h Q :=
  am_aload_n d_Rounds_likeliestCarry_28 rfl (i := 0) rfl <|
    am_aload_n d_Rounds_likeliestCarry_29 rfl (i := 1) rfl <|
    am_iload_n d_Rounds_likeliestCarry_30 rfl (i := 2) rfl <|
    am_iload d_Rounds_likeliestCarry_31 rfl <|
    am_callV (vs := [.ref a1, .int x2, .int x6]) (st := []) (k := 17) (ci := 4) rfl d_Rounds_likeliestCarry_33 rfl rfl w_979 w_981 w_26 w_88 w_982 p_Rounds_waysOfAll (Nat.le_of_ble_eq_true rfl) (Nat.le_of_ble_eq_true rfl) rfl k
theorem b_Rounds_likeliestCarry_36 {d : Nat} {a1 : Nat} {x2 : Int32} {x3 : Int32} {x4 : Int64} {x6 : Int32} {y0 : Int64} {h : am_H} {Q : am_Q} (sa1 : am_shf a1) (kt : y0 ≤ x4 → am_W (X_Rounds_likeliestCarry d) 53 [some (.ref 17), some (.ref a1), some (.int x2), some (.int x3), some (.long x4), none, some (.int x6), some (.long y0), none] [] h Q) (kf : ¬ y0 ≤ x4 → am_W (X_Rounds_likeliestCarry d) 46 [some (.ref 17), some (.ref a1), some (.int x2), some (.int x3), some (.long x4), none, some (.int x6), some (.long y0), none] [] h Q) : am_W (X_Rounds_likeliestCarry d) 36 [some (.ref 17), some (.ref a1), some (.int x2), some (.int x3), some (.long x4), none, some (.int x6), none, none] [.long y0] h Q :=
  am_lstore (ls' := [some (.ref 17), some (.ref a1), some (.int x2), some (.int x3), some (.long x4), none, some (.int x6), some (.long y0), none]) d_Rounds_likeliestCarry_36 (Nat.le_of_ble_eq_true rfl) rfl <|
    am_lload d_Rounds_likeliestCarry_38 rfl <|
    am_lload d_Rounds_likeliestCarry_40 rfl <|
    am_lc_if_le (tgt := 53) d_Rounds_likeliestCarry_42 d_Rounds_likeliestCarry_43 (by decide) kt kf
theorem b_Rounds_likeliestCarry_46 {d : Nat} {a1 : Nat} {x2 : Int32} {x3 : Int32} {x4 : Int64} {x6 : Int32} {x7 : Int64} {h : am_H} {Q : am_Q} (sa1 : am_shf a1) (k : am_W (X_Rounds_likeliestCarry d) 53 [some (.ref 17), some (.ref a1), some (.int x2), some (.int x6), some (.long x7), none, some (.int x6), some (.long x7), none] [] h Q) : am_W (X_Rounds_likeliestCarry d) 46 [some (.ref 17), some (.ref a1), some (.int x2), some (.int x3), some (.long x4), none, some (.int x6), some (.long x7), none] [] h Q :=
  am_lload d_Rounds_likeliestCarry_46 rfl <|
    am_lstore (ls' := [some (.ref 17), some (.ref a1), some (.int x2), some (.int x3), some (.long x7), none, some (.int x6), some (.long x7), none]) d_Rounds_likeliestCarry_48 (Nat.le_of_ble_eq_true rfl) rfl <|
    am_iload d_Rounds_likeliestCarry_50 rfl <|
    am_istore_n (ls' := [some (.ref 17), some (.ref a1), some (.int x2), some (.int x6), some (.long x7), none, some (.int x6), some (.long x7), none]) d_Rounds_likeliestCarry_52 rfl (Nat.le_of_ble_eq_true rfl) rfl <|
    k
theorem b_Rounds_likeliestCarry_53 {d : Nat} {a1 : Nat} {x2 : Int32} {x3 : Int32} {x4 : Int64} {x6 : Int32} {x7 : Int64} {h : am_H} {Q : am_Q} (sa1 : am_shf a1) (k : am_W (X_Rounds_likeliestCarry d) 21 [some (.ref 17), some (.ref a1), some (.int x2), some (.int x3), some (.long x4), none, some (.int (x6 + 1)), some (.long x7), none] [] h Q) : am_W (X_Rounds_likeliestCarry d) 53 [some (.ref 17), some (.ref a1), some (.int x2), some (.int x3), some (.long x4), none, some (.int x6), some (.long x7), none] [] h Q :=
  am_iinc (v := (x6 + 1)) (ls' := [some (.ref 17), some (.ref a1), some (.int x2), some (.int x3), some (.long x4), none, some (.int (x6 + 1)), some (.long x7), none]) d_Rounds_likeliestCarry_53 rfl rfl (Nat.le_of_ble_eq_true rfl) rfl <|
    am_goto (tgt := 21) d_Rounds_likeliestCarry_56 (by decide) k
theorem b_Rounds_likeliestCarry_59 {d : Nat} {a1 : Nat} {x2 : Int32} {x3 : Int32} {x4 : Int64} {x6 : Int32} {h : am_H} {Q : am_Q} (sa1 : am_shf a1) (q : Q (some (.int x3)) h) : am_W (X_Rounds_likeliestCarry d) 59 [some (.ref 17), some (.ref a1), some (.int x2), some (.int x3), some (.long x4), none, some (.int x6), none, none] [] h Q :=
  am_iload_n d_Rounds_likeliestCarry_59 rfl (i := 3) rfl <|
    am_iret rfl d_Rounds_likeliestCarry_60 q
theorem t_Rounds_likeliestCarry_59 {d : Nat} {a1 : Nat} {x2 : Int32} {x3 : Int32} {x4 : Int64} {x6 : Int32} {h : am_H} {Q : am_Q} {res : Int32} (sa1 : am_shf a1) (e : f_Rounds_likeliestCarry_59 h x3 = some res) (q : Q (some (.int res)) h) : am_W (X_Rounds_likeliestCarry (d + 5)) 59 [some (.ref 17), some (.ref a1), some (.int x2), some (.int x3), some (.long x4), none, some (.int x6), none, none] [] h Q :=
  b_Rounds_likeliestCarry_59 (d := (d + 5)) (sa1 := sa1) (q := (am_rIp (v := x3) e q))
theorem t_Rounds_likeliestCarry_53 {d : Nat} {k21 : Nat → Int32 → Int32 → Int64 → Int32 → Option (Int32)} {a1 : Nat} {x2 : Int32} {x3 : Int32} {x4 : Int64} {x6 : Int32} {x7 : Int64} {h : am_H} {Q : am_Q} {res : Int32} (hk21 : ∀ (a1 : Nat) (x2 : Int32) (x3 : Int32) (x4 : Int64) (x6 : Int32), am_shf a1 → k21 a1 x2 x3 x4 x6 = some res → am_W (X_Rounds_likeliestCarry (d + 5)) 21 [some (.ref 17), some (.ref a1), some (.int x2), some (.int x3), some (.long x4), none, some (.int x6), none, none] [] h Q) (sa1 : am_shf a1) (e : f_Rounds_likeliestCarry_53 k21 h a1 x2 x3 x4 x6 = some res) (q : Q (some (.int res)) h) : am_W (X_Rounds_likeliestCarry (d + 5)) 53 [some (.ref 17), some (.ref a1), some (.int x2), some (.int x3), some (.long x4), none, some (.int x6), some (.long x7), none] [] h Q :=
  b_Rounds_likeliestCarry_53 (d := (d + 5)) (sa1 := sa1) (k := (am_wk2 (hk21 _ _ _ _ _ sa1 e) ⟨rfl, ⟨rfl, ⟨rfl, ⟨rfl, ⟨rfl, ⟨rfl, trivial⟩⟩⟩⟩⟩⟩))
theorem t_Rounds_likeliestCarry_46 {d : Nat} {k21 : Nat → Int32 → Int32 → Int64 → Int32 → Option (Int32)} {a1 : Nat} {x2 : Int32} {x3 : Int32} {x4 : Int64} {x6 : Int32} {x7 : Int64} {h : am_H} {Q : am_Q} {res : Int32} (hk21 : ∀ (a1 : Nat) (x2 : Int32) (x3 : Int32) (x4 : Int64) (x6 : Int32), am_shf a1 → k21 a1 x2 x3 x4 x6 = some res → am_W (X_Rounds_likeliestCarry (d + 5)) 21 [some (.ref 17), some (.ref a1), some (.int x2), some (.int x3), some (.long x4), none, some (.int x6), none, none] [] h Q) (sa1 : am_shf a1) (e : f_Rounds_likeliestCarry_46 k21 h a1 x2 x6 x7 = some res) (q : Q (some (.int res)) h) : am_W (X_Rounds_likeliestCarry (d + 5)) 46 [some (.ref 17), some (.ref a1), some (.int x2), some (.int x3), some (.long x4), none, some (.int x6), some (.long x7), none] [] h Q :=
  b_Rounds_likeliestCarry_46 (d := (d + 5)) (sa1 := sa1) (k := (t_Rounds_likeliestCarry_53 hk21 sa1 e q))
theorem t_Rounds_likeliestCarry_36 {d : Nat} {k21 : Nat → Int32 → Int32 → Int64 → Int32 → Option (Int32)} {a1 : Nat} {x2 : Int32} {x3 : Int32} {x4 : Int64} {x6 : Int32} {y0 : Int64} {h : am_H} {Q : am_Q} {res : Int32} (hk21 : ∀ (a1 : Nat) (x2 : Int32) (x3 : Int32) (x4 : Int64) (x6 : Int32), am_shf a1 → k21 a1 x2 x3 x4 x6 = some res → am_W (X_Rounds_likeliestCarry (d + 5)) 21 [some (.ref 17), some (.ref a1), some (.int x2), some (.int x3), some (.long x4), none, some (.int x6), none, none] [] h Q) (sa1 : am_shf a1) (e : f_Rounds_likeliestCarry_36 k21 h a1 x2 x3 x4 x6 y0 = some res) (q : Q (some (.int res)) h) : am_W (X_Rounds_likeliestCarry (d + 5)) 36 [some (.ref 17), some (.ref a1), some (.int x2), some (.int x3), some (.long x4), none, some (.int x6), none, none] [.long y0] h Q :=
  b_Rounds_likeliestCarry_36 (d := (d + 5)) (sa1 := sa1) (kt := fun c => (t_Rounds_likeliestCarry_53 hk21 sa1 (am_ift e c) q)) (kf := fun c => (t_Rounds_likeliestCarry_46 hk21 sa1 (am_ife e c) q))
theorem t_Rounds_likeliestCarry_28 {d : Nat} {k21 : Nat → Int32 → Int32 → Int64 → Int32 → Option (Int32)} {a1 : Nat} {x2 : Int32} {x3 : Int32} {x4 : Int64} {x6 : Int32} {h : am_H} {Q : am_Q} {res : Int32} (hk21 : ∀ (a1 : Nat) (x2 : Int32) (x3 : Int32) (x4 : Int64) (x6 : Int32), am_shf a1 → k21 a1 x2 x3 x4 x6 = some res → am_W (X_Rounds_likeliestCarry (d + 5)) 21 [some (.ref 17), some (.ref a1), some (.int x2), some (.int x3), some (.long x4), none, some (.int x6), none, none] [] h Q) (sa1 : am_shf a1) (e : f_Rounds_likeliestCarry_28 k21 h a1 x2 x3 x4 x6 = some res) (q : Q (some (.int res)) h) : am_W (X_Rounds_likeliestCarry (d + 5)) 28 [some (.ref 17), some (.ref a1), some (.int x2), some (.int x3), some (.long x4), none, some (.int x6), none, none] [] h Q :=
  (am_bd e).elim fun p hp => b_Rounds_likeliestCarry_28 (d := (d + 4)) (sa1 := sa1) (k := c_Rounds_waysOfAll (d := d) sa1 hp.1 (t_Rounds_likeliestCarry_36 hk21 sa1 hp.2 q))
theorem t_Rounds_likeliestCarry_21 {d : Nat} {k21 : Nat → Int32 → Int32 → Int64 → Int32 → Option (Int32)} {a1 : Nat} {x2 : Int32} {x3 : Int32} {x4 : Int64} {x6 : Int32} {h : am_H} {Q : am_Q} {res : Int32} (hk21 : ∀ (a1 : Nat) (x2 : Int32) (x3 : Int32) (x4 : Int64) (x6 : Int32), am_shf a1 → k21 a1 x2 x3 x4 x6 = some res → am_W (X_Rounds_likeliestCarry (d + 5)) 21 [some (.ref 17), some (.ref a1), some (.int x2), some (.int x3), some (.long x4), none, some (.int x6), none, none] [] h Q) (sa1 : am_shf a1) (e : f_Rounds_likeliestCarry_21 k21 h a1 x2 x3 x4 x6 = some res) (q : Q (some (.int res)) h) : am_W (X_Rounds_likeliestCarry (d + 5)) 21 [some (.ref 17), some (.ref a1), some (.int x2), some (.int x3), some (.long x4), none, some (.int x6), none, none] [] h Q :=
  b_Rounds_likeliestCarry_21 (d := (d + 5)) (sa1 := sa1) (kt := fun c => (t_Rounds_likeliestCarry_59 sa1 (am_ift e c) q)) (kf := fun c => (t_Rounds_likeliestCarry_28 hk21 sa1 (am_ife e c) q))
theorem t_Rounds_likeliestCarry_21_l {d : Nat} {h : am_H} {Q : am_Q} {res : Int32} (q : Q (some (.int res)) h) : ∀ (n : Nat) (a1 : Nat) (x2 : Int32) (x3 : Int32) (x4 : Int64) (x6 : Int32), am_shf a1 → f_Rounds_likeliestCarry_21_l h n a1 x2 x3 x4 x6 = some res → am_W (X_Rounds_likeliestCarry (d + 5)) 21 [some (.ref 17), some (.ref a1), some (.int x2), some (.int x3), some (.long x4), none, some (.int x6), none, none] [] h Q := by
  intro n
  induction n with
  | zero => intro a1 x2 x3 x4 x6 sa1 e; exact am_nn e
  | succ n ih => intro a1 x2 x3 x4 x6 sa1 e; exact t_Rounds_likeliestCarry_21 (fun a1 x2 x3 x4 x6 sa1 e => ih a1 x2 x3 x4 x6 sa1 e) sa1 e q
theorem t_Rounds_likeliestCarry_12 {d : Nat} {a1 : Nat} {x2 : Int32} {h : am_H} {Q : am_Q} {res : Int32} (sa1 : am_shf a1) (e : f_Rounds_likeliestCarry_12 h a1 x2 = some res) (q : Q (some (.int res)) h) : am_W (X_Rounds_likeliestCarry (d + 5)) 12 [some (.ref 17), some (.ref a1), some (.int x2), none, none, none, none, none, none] [] h Q :=
  b_Rounds_likeliestCarry_12 (d := (d + 5)) (sa1 := sa1) (k := (t_Rounds_likeliestCarry_21_l q am_fu _ _ _ _ _ sa1 e))
theorem t_Rounds_likeliestCarry_9 {d : Nat} {a1 : Nat} {x2 : Int32} {h : am_H} {Q : am_Q} {res : Int32} (sa1 : am_shf a1) (e : f_Rounds_likeliestCarry_9 h = some res) (q : Q (some (.int res)) h) : am_W (X_Rounds_likeliestCarry (d + 5)) 9 [some (.ref 17), some (.ref a1), some (.int x2), none, none, none, none, none, none] [] h Q :=
  b_Rounds_likeliestCarry_9 (d := (d + 5)) (sa1 := sa1) (q := (am_rIp (v := (-2)) e q))
theorem t_Rounds_likeliestCarry_6 {d : Nat} {a1 : Nat} {x2 : Int32} {y0 : Bool} {h : am_H} {Q : am_Q} {res : Int32} (sa1 : am_shf a1) (e : f_Rounds_likeliestCarry_6 h a1 x2 y0 = some res) (q : Q (some (.int res)) h) : am_W (X_Rounds_likeliestCarry (d + 5)) 6 [some (.ref 17), some (.ref a1), some (.int x2), none, none, none, none, none, none] [.int (am_b y0)] h Q :=
  b_Rounds_likeliestCarry_6 (d := (d + 5)) (sa1 := sa1) (kt := fun c => (t_Rounds_likeliestCarry_12 sa1 (am_ift e (am_bn c)) q)) (kf := fun c => (t_Rounds_likeliestCarry_9 sa1 (am_iff e (am_bz c)) q))
theorem t_Rounds_likeliestCarry_0 {d : Nat} {a1 : Nat} {x2 : Int32} {h : am_H} {Q : am_Q} {res : Int32} (sa1 : am_shf a1) (e : f_Rounds_likeliestCarry h a1 x2 = some res) (q : Q (some (.int res)) h) : am_W (X_Rounds_likeliestCarry (d + 5)) 0 [some (.ref 17), some (.ref a1), some (.int x2), none, none, none, none, none, none] [] h Q :=
  (am_bd e).elim fun p hp => b_Rounds_likeliestCarry_0 (d := (d + 4)) (sa1 := sa1) (k := c_Rounds_isToldOf (d := d + 3) sa1 hp.1 (t_Rounds_likeliestCarry_6 sa1 hp.2 q))
theorem c_Rounds_likeliestCarry {d : Nat} {a1 : Nat} {x2 : Int32} {h : am_H} {Q : am_Q} {res : Int32} (sa1 : am_shf a1) (e : f_Rounds_likeliestCarry h a1 x2 = some res) (q : Q (some (.int res)) h) : m_Rounds_likeliestCarry (d + 5) [.ref 17, .ref a1, .int x2] h Q :=
  e_Rounds_likeliestCarry (t_Rounds_likeliestCarry_0 sa1 e q)
theorem d_Club_truly_0 : decode prog_1_method_21_code 0 = .ok (.aload_n 0, 1) := by decide +kernel
theorem d_Club_truly_1 : decode prog_1_method_21_code 1 = .ok (.getfield 12, 3) := by decide +kernel
theorem d_Club_truly_4 : decode prog_1_method_21_code 4 = .ok (.iload_n 2, 1) := by decide +kernel
theorem d_Club_truly_5 : decode prog_1_method_21_code 5 = .ok (.invokevirtual 193, 3) := by decide +kernel
theorem d_Club_truly_8 : decode prog_1_method_21_code 8 = .ok (.ifCond .ne 5, 3) := by decide +kernel
theorem d_Club_truly_11 : decode prog_1_method_21_code 11 = .ok (.iconst (-1), 1) := by decide +kernel
theorem d_Club_truly_12 : decode prog_1_method_21_code 12 = .ok (.ireturn, 1) := by decide +kernel
theorem d_Club_truly_13 : decode prog_1_method_21_code 13 = .ok (.aload_n 0, 1) := by decide +kernel
theorem d_Club_truly_14 : decode prog_1_method_21_code 14 = .ok (.iload_n 1, 1) := by decide +kernel
theorem d_Club_truly_15 : decode prog_1_method_21_code 15 = .ok (.invokevirtual 242, 3) := by decide +kernel
theorem d_Club_truly_18 : decode prog_1_method_21_code 18 = .ok (.istore_n 3, 1) := by decide +kernel
theorem d_Club_truly_19 : decode prog_1_method_21_code 19 = .ok (.iload_n 3, 1) := by decide +kernel
theorem d_Club_truly_20 : decode prog_1_method_21_code 20 = .ok (.ifCond .eq 7, 3) := by decide +kernel
theorem d_Club_truly_23 : decode prog_1_method_21_code 23 = .ok (.iload_n 3, 1) := by decide +kernel
theorem d_Club_truly_24 : decode prog_1_method_21_code 24 = .ok (.goto 17, 3) := by decide +kernel
theorem d_Club_truly_27 : decode prog_1_method_21_code 27 = .ok (.aload_n 0, 1) := by decide +kernel
theorem d_Club_truly_28 : decode prog_1_method_21_code 28 = .ok (.getfield 39, 3) := by decide +kernel
theorem d_Club_truly_31 : decode prog_1_method_21_code 31 = .ok (.aload_n 0, 1) := by decide +kernel
theorem d_Club_truly_32 : decode prog_1_method_21_code 32 = .ok (.getfield 75, 3) := by decide +kernel
theorem d_Club_truly_35 : decode prog_1_method_21_code 35 = .ok (.iload_n 1, 1) := by decide +kernel
theorem d_Club_truly_36 : decode prog_1_method_21_code 36 = .ok (.aaload, 1) := by decide +kernel
theorem d_Club_truly_37 : decode prog_1_method_21_code 37 = .ok (.iload_n 2, 1) := by decide +kernel
theorem d_Club_truly_38 : decode prog_1_method_21_code 38 = .ok (.invokevirtual 249, 3) := by decide +kernel
theorem d_Club_truly_41 : decode prog_1_method_21_code 41 = .ok (.ireturn, 1) := by decide +kernel
theorem b_Club_truly_0 {d : Nat} {x1 : Int32} {x2 : Int32} {h : am_H} {Q : am_Q} (k : m_Hole_hasClub d [.ref 1, .int x2] h (fun r hh => am_W (X_Club_truly (d + 1)) 8 [some (.ref 0), some (.int x1), some (.int x2), none] (r.toList ++ []) hh Q)) : am_W (X_Club_truly (d + 1)) 0 [some (.ref 0), some (.int x1), some (.int x2), none] [] h Q :=
  am_aload_n d_Club_truly_0 rfl (i := 0) rfl <|
    am_getR (ci := 0) (i := 0) rfl rfl rfl (Nat.le_of_ble_eq_true rfl) w_362 d_Club_truly_1 <|
    am_iload_n d_Club_truly_4 rfl (i := 2) rfl <|
    am_callV (vs := [.int x2]) (st := []) (k := 1) (ci := 1) rfl d_Club_truly_5 rfl rfl w_678 w_472 w_473 w_84 w_474 p_Hole_hasClub (Nat.le_of_ble_eq_true rfl) (Nat.le_of_ble_eq_true rfl) rfl k
theorem b_Club_truly_8 {d : Nat} {x1 : Int32} {x2 : Int32} {y0 : Bool} {h : am_H} {Q : am_Q} (kt : ¬ (am_b y0) = 0 → am_W (X_Club_truly d) 13 [some (.ref 0), some (.int x1), some (.int x2), none] [] h Q) (kf : (am_b y0) = 0 → am_W (X_Club_truly d) 11 [some (.ref 0), some (.int x1), some (.int x2), none] [] h Q) : am_W (X_Club_truly d) 8 [some (.ref 0), some (.int x1), some (.int x2), none] [.int (am_b y0)] h Q :=
  am_if_ne (tgt := 13) d_Club_truly_8 (by decide) kt kf
theorem b_Club_truly_11 {d : Nat} {x1 : Int32} {x2 : Int32} {h : am_H} {Q : am_Q} (q : Q (some (.int (-1))) h) : am_W (X_Club_truly d) 11 [some (.ref 0), some (.int x1), some (.int x2), none] [] h Q :=
  am_iconst (v := (-1)) d_Club_truly_11 (by decide) <|
    am_iret rfl d_Club_truly_12 q
theorem b_Club_truly_13 {d : Nat} {x1 : Int32} {x2 : Int32} {h : am_H} {Q : am_Q} (k : m_Club_refuseRound d [.ref 0, .int x1] h (fun r hh => am_W (X_Club_truly (d + 1)) 18 [some (.ref 0), some (.int x1), some (.int x2), none] (r.toList ++ []) hh Q)) : am_W (X_Club_truly (d + 1)) 13 [some (.ref 0), some (.int x1), some (.int x2), none] [] h Q :=
  am_aload_n d_Club_truly_13 rfl (i := 0) rfl <|
    am_iload_n d_Club_truly_14 rfl (i := 1) rfl <|
    am_callV (vs := [.int x1]) (st := []) (k := 0) (ci := 0) rfl d_Club_truly_15 rfl rfl w_944 w_946 w_23 w_83 w_947 p_Club_refuseRound (Nat.le_of_ble_eq_true rfl) (Nat.le_of_ble_eq_true rfl) rfl k
theorem b_Club_truly_18 {d : Nat} {x1 : Int32} {x2 : Int32} {y0 : Int32} {h : am_H} {Q : am_Q} (kt : y0 = 0 → am_W (X_Club_truly d) 27 [some (.ref 0), some (.int x1), some (.int x2), some (.int y0)] [] h Q) (kf : ¬ y0 = 0 → am_W (X_Club_truly d) 23 [some (.ref 0), some (.int x1), some (.int x2), some (.int y0)] [] h Q) : am_W (X_Club_truly d) 18 [some (.ref 0), some (.int x1), some (.int x2), none] [.int y0] h Q :=
  am_istore_n (ls' := [some (.ref 0), some (.int x1), some (.int x2), some (.int y0)]) d_Club_truly_18 rfl (Nat.le_of_ble_eq_true rfl) rfl <|
    am_iload_n d_Club_truly_19 rfl (i := 3) rfl <|
    am_if_eq (tgt := 27) d_Club_truly_20 (by decide) kt kf
theorem b_Club_truly_23 {d : Nat} {x1 : Int32} {x2 : Int32} {x3 : Int32} {h : am_H} {Q : am_Q} (q : Q (some (.int x3)) h) : am_W (X_Club_truly d) 23 [some (.ref 0), some (.int x1), some (.int x2), some (.int x3)] [] h Q :=
  am_iload_n d_Club_truly_23 rfl (i := 3) rfl <|
    am_goto (tgt := 41) d_Club_truly_24 (by decide) <|
    am_iret rfl d_Club_truly_41 q
theorem b_Club_truly_27 {d : Nat} {x1 : Int32} {x2 : Int32} {x3 : Int32} {h : am_H} {Q : am_Q} (q0 : vp_in x1 6) (k : m_Rounds_likeliestCarry d [.ref 17, .ref (am_shp x1), .int x2] h (fun r hh => am_W (X_Club_truly (d + 1)) 41 [some (.ref 0), some (.int x1), some (.int x2), some (.int x3)] (r.toList ++ []) hh Q)) : am_W (X_Club_truly (d + 1)) 27 [some (.ref 0), some (.int x1), some (.int x2), some (.int x3)] [] h Q :=
  am_aload_n d_Club_truly_27 rfl (i := 0) rfl <|
    am_getR (ci := 0) (i := 3) rfl rfl rfl (Nat.le_of_ble_eq_true rfl) w_365 d_Club_truly_28 <|
    am_aload_n d_Club_truly_31 rfl (i := 0) rfl <|
    am_getR (ci := 0) (i := 8) rfl rfl rfl (Nat.le_of_ble_eq_true rfl) w_370 d_Club_truly_32 <|
    am_iload_n d_Club_truly_35 rfl (i := 1) rfl <|
    am_aald (q := am_shp x1) rfl q0 (am_shq q0) d_Club_truly_36 <|
    am_iload_n d_Club_truly_37 rfl (i := 2) rfl <|
    am_callV (vs := [.ref (am_shp x1), .int x2]) (st := []) (k := 17) (ci := 4) rfl d_Club_truly_38 rfl rfl w_971 w_972 w_973 w_88 w_974 p_Rounds_likeliestCarry (Nat.le_of_ble_eq_true rfl) (Nat.le_of_ble_eq_true rfl) rfl k
theorem b_Club_truly_41 {d : Nat} {x1 : Int32} {x2 : Int32} {x3 : Int32} {y0 : Int32} {h : am_H} {Q : am_Q} (q : Q (some (.int y0)) h) : am_W (X_Club_truly d) 41 [some (.ref 0), some (.int x1), some (.int x2), some (.int x3)] [.int y0] h Q :=
  am_iret rfl d_Club_truly_41 q
theorem t_Club_truly_41 {d : Nat} {x1 : Int32} {x2 : Int32} {x3 : Int32} {y0 : Int32} {h : am_H} {Q : am_Q} {res : Int32} (e : f_Club_truly_41 h y0 = some res) (q : Q (some (.int res)) h) : am_W (X_Club_truly (d + 6)) 41 [some (.ref 0), some (.int x1), some (.int x2), some (.int x3)] [.int y0] h Q :=
  b_Club_truly_41 (d := (d + 6)) (q := (am_rIp (v := y0) e q))
theorem t_Club_truly_27 {d : Nat} {x1 : Int32} {x2 : Int32} {x3 : Int32} {h : am_H} {Q : am_Q} {res : Int32} (e : f_Club_truly_27 h x1 x2 = some res) (q : Q (some (.int res)) h) : am_W (X_Club_truly (d + 6)) 27 [some (.ref 0), some (.int x1), some (.int x2), some (.int x3)] [] h Q :=
  (am_bd (am_ga e)).elim fun p hp => b_Club_truly_27 (d := (d + 5)) (q0 := (am_okv (am_gd e))) (k := c_Rounds_likeliestCarry (d := d) (am_shl (am_okv (am_gd e))) hp.1 (t_Club_truly_41 hp.2 q))
theorem t_Club_truly_23 {d : Nat} {x1 : Int32} {x2 : Int32} {x3 : Int32} {h : am_H} {Q : am_Q} {res : Int32} (e : f_Club_truly_23 h x3 = some res) (q : Q (some (.int res)) h) : am_W (X_Club_truly (d + 6)) 23 [some (.ref 0), some (.int x1), some (.int x2), some (.int x3)] [] h Q :=
  b_Club_truly_23 (d := (d + 6)) (q := (am_rIp (v := x3) e q))
theorem t_Club_truly_18 {d : Nat} {x1 : Int32} {x2 : Int32} {y0 : Int32} {h : am_H} {Q : am_Q} {res : Int32} (e : f_Club_truly_18 h x1 x2 y0 = some res) (q : Q (some (.int res)) h) : am_W (X_Club_truly (d + 6)) 18 [some (.ref 0), some (.int x1), some (.int x2), none] [.int y0] h Q :=
  b_Club_truly_18 (d := (d + 6)) (kt := fun c => (t_Club_truly_27 (am_ift e c) q)) (kf := fun c => (t_Club_truly_23 (am_ife e c) q))
theorem t_Club_truly_13 {d : Nat} {x1 : Int32} {x2 : Int32} {h : am_H} {Q : am_Q} {res : Int32} (e : f_Club_truly_13 h x1 x2 = some res) (q : Q (some (.int res)) h) : am_W (X_Club_truly (d + 6)) 13 [some (.ref 0), some (.int x1), some (.int x2), none] [] h Q :=
  (am_bd e).elim fun p hp => b_Club_truly_13 (d := (d + 5)) (k := c_Club_refuseRound (d := d + 4) hp.1 (t_Club_truly_18 hp.2 q))
theorem t_Club_truly_11 {d : Nat} {x1 : Int32} {x2 : Int32} {h : am_H} {Q : am_Q} {res : Int32} (e : f_Club_truly_11 h = some res) (q : Q (some (.int res)) h) : am_W (X_Club_truly (d + 6)) 11 [some (.ref 0), some (.int x1), some (.int x2), none] [] h Q :=
  b_Club_truly_11 (d := (d + 6)) (q := (am_rIp (v := (-1)) e q))
theorem t_Club_truly_8 {d : Nat} {x1 : Int32} {x2 : Int32} {y0 : Bool} {h : am_H} {Q : am_Q} {res : Int32} (e : f_Club_truly_8 h x1 x2 y0 = some res) (q : Q (some (.int res)) h) : am_W (X_Club_truly (d + 6)) 8 [some (.ref 0), some (.int x1), some (.int x2), none] [.int (am_b y0)] h Q :=
  b_Club_truly_8 (d := (d + 6)) (kt := fun c => (t_Club_truly_13 (am_ift e (am_bn c)) q)) (kf := fun c => (t_Club_truly_11 (am_iff e (am_bz c)) q))
theorem t_Club_truly_0 {d : Nat} {x1 : Int32} {x2 : Int32} {h : am_H} {Q : am_Q} {res : Int32} (e : f_Club_truly h x1 x2 = some res) (q : Q (some (.int res)) h) : am_W (X_Club_truly (d + 6)) 0 [some (.ref 0), some (.int x1), some (.int x2), none] [] h Q :=
  b_Club_truly_0 (d := (d + 5)) (k := c_Hole_hasClub (d := d + 5) rfl (t_Club_truly_8 e q))
theorem c_Club_truly {d : Nat} {x1 : Int32} {x2 : Int32} {h : am_H} {Q : am_Q} {res : Int32} (e : f_Club_truly h x1 x2 = some res) (q : Q (some (.int res)) h) : m_Club_truly (d + 6) [.ref 0, .int x1, .int x2] h Q :=
  e_Club_truly (t_Club_truly_0 e q)
theorem d_Rounds_tookByLaw_0 : decode prog_8_method_7_code 0 = .ok (.iconst 0, 1) := by decide +kernel
theorem d_Rounds_tookByLaw_1 : decode prog_8_method_7_code 1 = .ok (.istore_n 2, 1) := by decide +kernel
theorem d_Rounds_tookByLaw_2 : decode prog_8_method_7_code 2 = .ok (.iconst 0, 1) := by decide +kernel
theorem d_Rounds_tookByLaw_3 : decode prog_8_method_7_code 3 = .ok (.istore_n 3, 1) := by decide +kernel
theorem d_Rounds_tookByLaw_4 : decode prog_8_method_7_code 4 = .ok (.iload_n 3, 1) := by decide +kernel
theorem d_Rounds_tookByLaw_5 : decode prog_8_method_7_code 5 = .ok (.aload_n 1, 1) := by decide +kernel
theorem d_Rounds_tookByLaw_6 : decode prog_8_method_7_code 6 = .ok (.invokevirtual 19, 3) := by decide +kernel
theorem d_Rounds_tookByLaw_9 : decode prog_8_method_7_code 9 = .ok (.iconst 3, 1) := by decide +kernel
theorem d_Rounds_tookByLaw_10 : decode prog_8_method_7_code 10 = .ok (.idiv, 1) := by decide +kernel
theorem d_Rounds_tookByLaw_11 : decode prog_8_method_7_code 11 = .ok (.if_icmp .ge 72, 3) := by decide +kernel
theorem d_Rounds_tookByLaw_14 : decode prog_8_method_7_code 14 = .ok (.aload_n 1, 1) := by decide +kernel
theorem d_Rounds_tookByLaw_15 : decode prog_8_method_7_code 15 = .ok (.iconst 3, 1) := by decide +kernel
theorem d_Rounds_tookByLaw_16 : decode prog_8_method_7_code 16 = .ok (.iload_n 3, 1) := by decide +kernel
theorem d_Rounds_tookByLaw_17 : decode prog_8_method_7_code 17 = .ok (.imul, 1) := by decide +kernel
theorem d_Rounds_tookByLaw_18 : decode prog_8_method_7_code 18 = .ok (.invokevirtual 25, 3) := by decide +kernel
theorem d_Rounds_tookByLaw_21 : decode prog_8_method_7_code 21 = .ok (.l2i, 1) := by decide +kernel
theorem d_Rounds_tookByLaw_22 : decode prog_8_method_7_code 22 = .ok (.istore 4, 2) := by decide +kernel
theorem d_Rounds_tookByLaw_24 : decode prog_8_method_7_code 24 = .ok (.aload_n 1, 1) := by decide +kernel
theorem d_Rounds_tookByLaw_25 : decode prog_8_method_7_code 25 = .ok (.iconst 3, 1) := by decide +kernel
theorem d_Rounds_tookByLaw_26 : decode prog_8_method_7_code 26 = .ok (.iload_n 3, 1) := by decide +kernel
theorem d_Rounds_tookByLaw_27 : decode prog_8_method_7_code 27 = .ok (.imul, 1) := by decide +kernel
theorem d_Rounds_tookByLaw_28 : decode prog_8_method_7_code 28 = .ok (.iconst 1, 1) := by decide +kernel
theorem d_Rounds_tookByLaw_29 : decode prog_8_method_7_code 29 = .ok (.iadd, 1) := by decide +kernel
theorem d_Rounds_tookByLaw_30 : decode prog_8_method_7_code 30 = .ok (.invokevirtual 25, 3) := by decide +kernel
theorem d_Rounds_tookByLaw_33 : decode prog_8_method_7_code 33 = .ok (.l2i, 1) := by decide +kernel
theorem d_Rounds_tookByLaw_34 : decode prog_8_method_7_code 34 = .ok (.istore 5, 2) := by decide +kernel
theorem d_Rounds_tookByLaw_36 : decode prog_8_method_7_code 36 = .ok (.aload_n 0, 1) := by decide +kernel
theorem d_Rounds_tookByLaw_37 : decode prog_8_method_7_code 37 = .ok (.getfield 9, 3) := by decide +kernel
theorem d_Rounds_tookByLaw_40 : decode prog_8_method_7_code 40 = .ok (.iload 4, 2) := by decide +kernel
theorem d_Rounds_tookByLaw_42 : decode prog_8_method_7_code 42 = .ok (.invokevirtual 46, 3) := by decide +kernel
theorem d_Rounds_tookByLaw_45 : decode prog_8_method_7_code 45 = .ok (.ifCond .eq 32, 3) := by decide +kernel
theorem d_Rounds_tookByLaw_48 : decode prog_8_method_7_code 48 = .ok (.aload_n 0, 1) := by decide +kernel
theorem d_Rounds_tookByLaw_49 : decode prog_8_method_7_code 49 = .ok (.getfield 9, 3) := by decide +kernel
theorem d_Rounds_tookByLaw_52 : decode prog_8_method_7_code 52 = .ok (.iload 5, 2) := by decide +kernel
theorem d_Rounds_tookByLaw_54 : decode prog_8_method_7_code 54 = .ok (.invokevirtual 29, 3) := by decide +kernel
theorem d_Rounds_tookByLaw_57 : decode prog_8_method_7_code 57 = .ok (.ifCond .eq 20, 3) := by decide +kernel
theorem d_Rounds_tookByLaw_60 : decode prog_8_method_7_code 60 = .ok (.aload_n 0, 1) := by decide +kernel
theorem d_Rounds_tookByLaw_61 : decode prog_8_method_7_code 61 = .ok (.getfield 15, 3) := by decide +kernel
theorem d_Rounds_tookByLaw_64 : decode prog_8_method_7_code 64 = .ok (.iload 4, 2) := by decide +kernel
theorem d_Rounds_tookByLaw_66 : decode prog_8_method_7_code 66 = .ok (.invokevirtual 63, 3) := by decide +kernel
theorem d_Rounds_tookByLaw_69 : decode prog_8_method_7_code 69 = .ok (.iload 5, 2) := by decide +kernel
theorem d_Rounds_tookByLaw_71 : decode prog_8_method_7_code 71 = .ok (.if_icmp .ne 6, 3) := by decide +kernel
theorem d_Rounds_tookByLaw_74 : decode prog_8_method_7_code 74 = .ok (.iinc 2 1, 3) := by decide +kernel
theorem d_Rounds_tookByLaw_77 : decode prog_8_method_7_code 77 = .ok (.iinc 3 1, 3) := by decide +kernel
theorem d_Rounds_tookByLaw_80 : decode prog_8_method_7_code 80 = .ok (.goto (-76), 3) := by decide +kernel
theorem d_Rounds_tookByLaw_83 : decode prog_8_method_7_code 83 = .ok (.iload_n 2, 1) := by decide +kernel
theorem d_Rounds_tookByLaw_84 : decode prog_8_method_7_code 84 = .ok (.ireturn, 1) := by decide +kernel
theorem b_Rounds_tookByLaw_0 {d : Nat} {a1 : Nat} {h : am_H} {Q : am_Q} (sa1 : am_shf a1) (k : am_W (X_Rounds_tookByLaw d) 4 [some (.ref 17), some (.ref a1), some (.int 0), some (.int 0), none, none] [] h Q) : am_W (X_Rounds_tookByLaw d) 0 [some (.ref 17), some (.ref a1), none, none, none, none] [] h Q :=
  am_iconst (v := 0) d_Rounds_tookByLaw_0 (by decide) <|
    am_istore_n (ls' := [some (.ref 17), some (.ref a1), some (.int 0), none, none, none]) d_Rounds_tookByLaw_1 rfl (Nat.le_of_ble_eq_true rfl) rfl <|
    am_iconst (v := 0) d_Rounds_tookByLaw_2 (by decide) <|
    am_istore_n (ls' := [some (.ref 17), some (.ref a1), some (.int 0), some (.int 0), none, none]) d_Rounds_tookByLaw_3 rfl (Nat.le_of_ble_eq_true rfl) rfl <|
    k
theorem b_Rounds_tookByLaw_4 {d : Nat} {a1 : Nat} {x2 : Int32} {x3 : Int32} {h : am_H} {Q : am_Q} (sa1 : am_shf a1) (k : m_Shelf_length d [.ref a1] h (fun r hh => am_W (X_Rounds_tookByLaw (d + 1)) 9 [some (.ref 17), some (.ref a1), some (.int x2), some (.int x3), none, none] (r.toList ++ [.int x3]) hh Q)) : am_W (X_Rounds_tookByLaw (d + 1)) 4 [some (.ref 17), some (.ref a1), some (.int x2), some (.int x3), none, none] [] h Q :=
  am_iload_n d_Rounds_tookByLaw_4 rfl (i := 3) rfl <|
    am_aload_n d_Rounds_tookByLaw_5 rfl (i := 1) rfl <|
    am_callV (vs := []) (st := [.int x3]) (k := a1) (ci := 9) rfl d_Rounds_tookByLaw_6 rfl sa1.1 w_952 w_953 w_954 w_93 w_955 p_Shelf_length (Nat.le_of_ble_eq_true rfl) (Nat.le_of_ble_eq_true rfl) rfl k
theorem b_Rounds_tookByLaw_9 {d : Nat} {a1 : Nat} {x2 : Int32} {x3 : Int32} {y1 : Int32} {y0 : Int32} {h : am_H} {Q : am_Q} (sa1 : am_shf a1) (kt : (y1 / 3) ≤ y0 → am_W (X_Rounds_tookByLaw d) 83 [some (.ref 17), some (.ref a1), some (.int x2), some (.int x3), none, none] [] h Q) (kf : ¬ (y1 / 3) ≤ y0 → am_W (X_Rounds_tookByLaw d) 14 [some (.ref 17), some (.ref a1), some (.int x2), some (.int x3), none, none] [] h Q) : am_W (X_Rounds_tookByLaw d) 9 [some (.ref 17), some (.ref a1), some (.int x2), some (.int x3), none, none] [.int y1, .int y0] h Q :=
  am_iconst (v := 3) d_Rounds_tookByLaw_9 (by decide) <|
    am_idiv d_Rounds_tookByLaw_10 (by decide) <|
    am_icmp_ge (tgt := 83) d_Rounds_tookByLaw_11 (by decide) kt kf
theorem b_Rounds_tookByLaw_14 {d : Nat} {a1 : Nat} {x2 : Int32} {x3 : Int32} {h : am_H} {Q : am_Q} (sa1 : am_shf a1) (k : m_Shelf_read d [.ref a1, .int (3 * x3)] h (fun r hh => am_W (X_Rounds_tookByLaw (d + 1)) 21 [some (.ref 17), some (.ref a1), some (.int x2), some (.int x3), none, none] (r.toList ++ []) hh Q)) : am_W (X_Rounds_tookByLaw (d + 1)) 14 [some (.ref 17), some (.ref a1), some (.int x2), some (.int x3), none, none] [] h Q :=
  am_aload_n d_Rounds_tookByLaw_14 rfl (i := 1) rfl <|
    am_iconst (v := 3) d_Rounds_tookByLaw_15 (by decide) <|
    am_iload_n d_Rounds_tookByLaw_16 rfl (i := 3) rfl <|
    am_imul d_Rounds_tookByLaw_17 <|
    am_callV (vs := [.int (3 * x3)]) (st := []) (k := a1) (ci := 9) rfl d_Rounds_tookByLaw_18 rfl sa1.1 w_956 w_452 w_453 w_93 w_454 p_Shelf_read (Nat.le_of_ble_eq_true rfl) (Nat.le_of_ble_eq_true rfl) rfl k
theorem b_Rounds_tookByLaw_21 {d : Nat} {a1 : Nat} {x2 : Int32} {x3 : Int32} {y0 : Int64} {h : am_H} {Q : am_Q} (sa1 : am_shf a1) (k : m_Shelf_read d [.ref a1, .int ((3 * x3) + 1)] h (fun r hh => am_W (X_Rounds_tookByLaw (d + 1)) 33 [some (.ref 17), some (.ref a1), some (.int x2), some (.int x3), some (.int y0.toInt32), none] (r.toList ++ []) hh Q)) : am_W (X_Rounds_tookByLaw (d + 1)) 21 [some (.ref 17), some (.ref a1), some (.int x2), some (.int x3), none, none] [.long y0] h Q :=
  am_l2i d_Rounds_tookByLaw_21 <|
    am_istore (ls' := [some (.ref 17), some (.ref a1), some (.int x2), some (.int x3), some (.int y0.toInt32), none]) d_Rounds_tookByLaw_22 (Nat.le_of_ble_eq_true rfl) rfl <|
    am_aload_n d_Rounds_tookByLaw_24 rfl (i := 1) rfl <|
    am_iconst (v := 3) d_Rounds_tookByLaw_25 (by decide) <|
    am_iload_n d_Rounds_tookByLaw_26 rfl (i := 3) rfl <|
    am_imul d_Rounds_tookByLaw_27 <|
    am_iconst (v := 1) d_Rounds_tookByLaw_28 (by decide) <|
    am_iadd d_Rounds_tookByLaw_29 <|
    am_callV (vs := [.int ((3 * x3) + 1)]) (st := []) (k := a1) (ci := 9) rfl d_Rounds_tookByLaw_30 rfl sa1.1 w_956 w_452 w_453 w_93 w_454 p_Shelf_read (Nat.le_of_ble_eq_true rfl) (Nat.le_of_ble_eq_true rfl) rfl k
theorem b_Rounds_tookByLaw_33 {d : Nat} {a1 : Nat} {x2 : Int32} {x3 : Int32} {x4 : Int32} {y0 : Int64} {h : am_H} {Q : am_Q} (sa1 : am_shf a1) (k : m_Hole_isOffGreen d [.ref 1, .int x4] h (fun r hh => am_W (X_Rounds_tookByLaw (d + 1)) 45 [some (.ref 17), some (.ref a1), some (.int x2), some (.int x3), some (.int x4), some (.int y0.toInt32)] (r.toList ++ []) hh Q)) : am_W (X_Rounds_tookByLaw (d + 1)) 33 [some (.ref 17), some (.ref a1), some (.int x2), some (.int x3), some (.int x4), none] [.long y0] h Q :=
  am_l2i d_Rounds_tookByLaw_33 <|
    am_istore (ls' := [some (.ref 17), some (.ref a1), some (.int x2), some (.int x3), some (.int x4), some (.int y0.toInt32)]) d_Rounds_tookByLaw_34 (Nat.le_of_ble_eq_true rfl) rfl <|
    am_aload_n d_Rounds_tookByLaw_36 rfl (i := 0) rfl <|
    am_getR (ci := 4) (i := 0) rfl rfl rfl (Nat.le_of_ble_eq_true rfl) w_247 d_Rounds_tookByLaw_37 <|
    am_iload d_Rounds_tookByLaw_40 rfl <|
    am_callV (vs := [.int x4]) (st := []) (k := 1) (ci := 1) rfl d_Rounds_tookByLaw_42 rfl rfl w_964 w_671 w_672 w_84 w_673 p_Hole_isOffGreen (Nat.le_of_ble_eq_true rfl) (Nat.le_of_ble_eq_true rfl) rfl k
theorem b_Rounds_tookByLaw_45 {d : Nat} {a1 : Nat} {x2 : Int32} {x3 : Int32} {x4 : Int32} {x5 : Int32} {y0 : Bool} {h : am_H} {Q : am_Q} (sa1 : am_shf a1) (kt : (am_b y0) = 0 → am_W (X_Rounds_tookByLaw d) 77 [some (.ref 17), some (.ref a1), some (.int x2), some (.int x3), some (.int x4), some (.int x5)] [] h Q) (kf : ¬ (am_b y0) = 0 → am_W (X_Rounds_tookByLaw d) 48 [some (.ref 17), some (.ref a1), some (.int x2), some (.int x3), some (.int x4), some (.int x5)] [] h Q) : am_W (X_Rounds_tookByLaw d) 45 [some (.ref 17), some (.ref a1), some (.int x2), some (.int x3), some (.int x4), some (.int x5)] [.int (am_b y0)] h Q :=
  am_if_eq (tgt := 77) d_Rounds_tookByLaw_45 (by decide) kt kf
theorem b_Rounds_tookByLaw_48 {d : Nat} {a1 : Nat} {x2 : Int32} {x3 : Int32} {x4 : Int32} {x5 : Int32} {h : am_H} {Q : am_Q} (sa1 : am_shf a1) (k : m_Hole_hasClub d [.ref 1, .int x5] h (fun r hh => am_W (X_Rounds_tookByLaw (d + 1)) 57 [some (.ref 17), some (.ref a1), some (.int x2), some (.int x3), some (.int x4), some (.int x5)] (r.toList ++ []) hh Q)) : am_W (X_Rounds_tookByLaw (d + 1)) 48 [some (.ref 17), some (.ref a1), some (.int x2), some (.int x3), some (.int x4), some (.int x5)] [] h Q :=
  am_aload_n d_Rounds_tookByLaw_48 rfl (i := 0) rfl <|
    am_getR (ci := 4) (i := 0) rfl rfl rfl (Nat.le_of_ble_eq_true rfl) w_247 d_Rounds_tookByLaw_49 <|
    am_iload d_Rounds_tookByLaw_52 rfl <|
    am_callV (vs := [.int x5]) (st := []) (k := 1) (ci := 1) rfl d_Rounds_tookByLaw_54 rfl rfl w_957 w_472 w_473 w_84 w_474 p_Hole_hasClub (Nat.le_of_ble_eq_true rfl) (Nat.le_of_ble_eq_true rfl) rfl k
theorem b_Rounds_tookByLaw_57 {d : Nat} {a1 : Nat} {x2 : Int32} {x3 : Int32} {x4 : Int32} {x5 : Int32} {y0 : Bool} {h : am_H} {Q : am_Q} (sa1 : am_shf a1) (kt : (am_b y0) = 0 → am_W (X_Rounds_tookByLaw d) 77 [some (.ref 17), some (.ref a1), some (.int x2), some (.int x3), some (.int x4), some (.int x5)] [] h Q) (kf : ¬ (am_b y0) = 0 → am_W (X_Rounds_tookByLaw d) 60 [some (.ref 17), some (.ref a1), some (.int x2), some (.int x3), some (.int x4), some (.int x5)] [] h Q) : am_W (X_Rounds_tookByLaw d) 57 [some (.ref 17), some (.ref a1), some (.int x2), some (.int x3), some (.int x4), some (.int x5)] [.int (am_b y0)] h Q :=
  am_if_eq (tgt := 77) d_Rounds_tookByLaw_57 (by decide) kt kf
theorem b_Rounds_tookByLaw_60 {d : Nat} {a1 : Nat} {x2 : Int32} {x3 : Int32} {x4 : Int32} {x5 : Int32} {h : am_H} {Q : am_Q} (sa1 : am_shf a1) (k : m_Reck_lawfulClub d [.ref 12, .int x4] h (fun r hh => am_W (X_Rounds_tookByLaw (d + 1)) 69 [some (.ref 17), some (.ref a1), some (.int x2), some (.int x3), some (.int x4), some (.int x5)] (r.toList ++ []) hh Q)) : am_W (X_Rounds_tookByLaw (d + 1)) 60 [some (.ref 17), some (.ref a1), some (.int x2), some (.int x3), some (.int x4), some (.int x5)] [] h Q :=
  am_aload_n d_Rounds_tookByLaw_60 rfl (i := 0) rfl <|
    am_getR (ci := 4) (i := 1) rfl rfl rfl (Nat.le_of_ble_eq_true rfl) w_248 d_Rounds_tookByLaw_61 <|
    am_iload d_Rounds_tookByLaw_64 rfl <|
    am_callV (vs := [.int x4]) (st := []) (k := 12) (ci := 3) rfl d_Rounds_tookByLaw_66 rfl rfl w_992 w_832 w_833 w_87 w_834 p_Reck_lawfulClub (Nat.le_of_ble_eq_true rfl) (Nat.le_of_ble_eq_true rfl) rfl k
theorem b_Rounds_tookByLaw_69 {d : Nat} {a1 : Nat} {x2 : Int32} {x3 : Int32} {x4 : Int32} {x5 : Int32} {y0 : Int32} {h : am_H} {Q : am_Q} (sa1 : am_shf a1) (kt : ¬ y0 = x5 → am_W (X_Rounds_tookByLaw d) 77 [some (.ref 17), some (.ref a1), some (.int x2), some (.int x3), some (.int x4), some (.int x5)] [] h Q) (kf : y0 = x5 → am_W (X_Rounds_tookByLaw d) 74 [some (.ref 17), some (.ref a1), some (.int x2), some (.int x3), some (.int x4), some (.int x5)] [] h Q) : am_W (X_Rounds_tookByLaw d) 69 [some (.ref 17), some (.ref a1), some (.int x2), some (.int x3), some (.int x4), some (.int x5)] [.int y0] h Q :=
  am_iload d_Rounds_tookByLaw_69 rfl <|
    am_icmp_ne (tgt := 77) d_Rounds_tookByLaw_71 (by decide) kt kf
theorem b_Rounds_tookByLaw_74 {d : Nat} {a1 : Nat} {x2 : Int32} {x3 : Int32} {x4 : Int32} {x5 : Int32} {h : am_H} {Q : am_Q} (sa1 : am_shf a1) (k : am_W (X_Rounds_tookByLaw d) 77 [some (.ref 17), some (.ref a1), some (.int (x2 + 1)), some (.int x3), some (.int x4), some (.int x5)] [] h Q) : am_W (X_Rounds_tookByLaw d) 74 [some (.ref 17), some (.ref a1), some (.int x2), some (.int x3), some (.int x4), some (.int x5)] [] h Q :=
  am_iinc (v := (x2 + 1)) (ls' := [some (.ref 17), some (.ref a1), some (.int (x2 + 1)), some (.int x3), some (.int x4), some (.int x5)]) d_Rounds_tookByLaw_74 rfl rfl (Nat.le_of_ble_eq_true rfl) rfl <|
    k
theorem b_Rounds_tookByLaw_77 {d : Nat} {a1 : Nat} {x2 : Int32} {x3 : Int32} {x4 : Int32} {x5 : Int32} {h : am_H} {Q : am_Q} (sa1 : am_shf a1) (k : am_W (X_Rounds_tookByLaw d) 4 [some (.ref 17), some (.ref a1), some (.int x2), some (.int (x3 + 1)), some (.int x4), some (.int x5)] [] h Q) : am_W (X_Rounds_tookByLaw d) 77 [some (.ref 17), some (.ref a1), some (.int x2), some (.int x3), some (.int x4), some (.int x5)] [] h Q :=
  am_iinc (v := (x3 + 1)) (ls' := [some (.ref 17), some (.ref a1), some (.int x2), some (.int (x3 + 1)), some (.int x4), some (.int x5)]) d_Rounds_tookByLaw_77 rfl rfl (Nat.le_of_ble_eq_true rfl) rfl <|
    am_goto (tgt := 4) d_Rounds_tookByLaw_80 (by decide) k
theorem b_Rounds_tookByLaw_83 {d : Nat} {a1 : Nat} {x2 : Int32} {x3 : Int32} {h : am_H} {Q : am_Q} (sa1 : am_shf a1) (q : Q (some (.int x2)) h) : am_W (X_Rounds_tookByLaw d) 83 [some (.ref 17), some (.ref a1), some (.int x2), some (.int x3), none, none] [] h Q :=
  am_iload_n d_Rounds_tookByLaw_83 rfl (i := 2) rfl <|
    am_iret rfl d_Rounds_tookByLaw_84 q
theorem t_Rounds_tookByLaw_83 {d : Nat} {a1 : Nat} {x2 : Int32} {x3 : Int32} {h : am_H} {Q : am_Q} {res : Int32} (sa1 : am_shf a1) (e : f_Rounds_tookByLaw_83 h x2 = some res) (q : Q (some (.int res)) h) : am_W (X_Rounds_tookByLaw (d + 3)) 83 [some (.ref 17), some (.ref a1), some (.int x2), some (.int x3), none, none] [] h Q :=
  b_Rounds_tookByLaw_83 (d := (d + 3)) (sa1 := sa1) (q := (am_rIp (v := x2) e q))
theorem t_Rounds_tookByLaw_77 {d : Nat} {k4 : Nat → Int32 → Int32 → Option (Int32)} {a1 : Nat} {x2 : Int32} {x3 : Int32} {x4 : Int32} {x5 : Int32} {h : am_H} {Q : am_Q} {res : Int32} (hk4 : ∀ (a1 : Nat) (x2 : Int32) (x3 : Int32), am_shf a1 → k4 a1 x2 x3 = some res → am_W (X_Rounds_tookByLaw (d + 3)) 4 [some (.ref 17), some (.ref a1), some (.int x2), some (.int x3), none, none] [] h Q) (sa1 : am_shf a1) (e : f_Rounds_tookByLaw_77 k4 h a1 x2 x3 = some res) (q : Q (some (.int res)) h) : am_W (X_Rounds_tookByLaw (d + 3)) 77 [some (.ref 17), some (.ref a1), some (.int x2), some (.int x3), some (.int x4), some (.int x5)] [] h Q :=
  b_Rounds_tookByLaw_77 (d := (d + 3)) (sa1 := sa1) (k := (am_wk2 (hk4 _ _ _ sa1 e) ⟨rfl, ⟨rfl, ⟨rfl, ⟨rfl, trivial⟩⟩⟩⟩))
theorem t_Rounds_tookByLaw_74 {d : Nat} {k4 : Nat → Int32 → Int32 → Option (Int32)} {a1 : Nat} {x2 : Int32} {x3 : Int32} {x4 : Int32} {x5 : Int32} {h : am_H} {Q : am_Q} {res : Int32} (hk4 : ∀ (a1 : Nat) (x2 : Int32) (x3 : Int32), am_shf a1 → k4 a1 x2 x3 = some res → am_W (X_Rounds_tookByLaw (d + 3)) 4 [some (.ref 17), some (.ref a1), some (.int x2), some (.int x3), none, none] [] h Q) (sa1 : am_shf a1) (e : f_Rounds_tookByLaw_74 k4 h a1 x2 x3 = some res) (q : Q (some (.int res)) h) : am_W (X_Rounds_tookByLaw (d + 3)) 74 [some (.ref 17), some (.ref a1), some (.int x2), some (.int x3), some (.int x4), some (.int x5)] [] h Q :=
  b_Rounds_tookByLaw_74 (d := (d + 3)) (sa1 := sa1) (k := (t_Rounds_tookByLaw_77 hk4 sa1 e q))
theorem t_Rounds_tookByLaw_69 {d : Nat} {k4 : Nat → Int32 → Int32 → Option (Int32)} {a1 : Nat} {x2 : Int32} {x3 : Int32} {x4 : Int32} {x5 : Int32} {y0 : Int32} {h : am_H} {Q : am_Q} {res : Int32} (hk4 : ∀ (a1 : Nat) (x2 : Int32) (x3 : Int32), am_shf a1 → k4 a1 x2 x3 = some res → am_W (X_Rounds_tookByLaw (d + 3)) 4 [some (.ref 17), some (.ref a1), some (.int x2), some (.int x3), none, none] [] h Q) (sa1 : am_shf a1) (e : f_Rounds_tookByLaw_69 k4 h a1 x2 x3 x5 y0 = some res) (q : Q (some (.int res)) h) : am_W (X_Rounds_tookByLaw (d + 3)) 69 [some (.ref 17), some (.ref a1), some (.int x2), some (.int x3), some (.int x4), some (.int x5)] [.int y0] h Q :=
  b_Rounds_tookByLaw_69 (d := (d + 3)) (sa1 := sa1) (kt := fun c => (t_Rounds_tookByLaw_77 hk4 sa1 (am_ife e c) q)) (kf := fun c => (t_Rounds_tookByLaw_74 hk4 sa1 (am_ift e c) q))
theorem t_Rounds_tookByLaw_60 {d : Nat} {k4 : Nat → Int32 → Int32 → Option (Int32)} {a1 : Nat} {x2 : Int32} {x3 : Int32} {x4 : Int32} {x5 : Int32} {h : am_H} {Q : am_Q} {res : Int32} (hk4 : ∀ (a1 : Nat) (x2 : Int32) (x3 : Int32), am_shf a1 → k4 a1 x2 x3 = some res → am_W (X_Rounds_tookByLaw (d + 3)) 4 [some (.ref 17), some (.ref a1), some (.int x2), some (.int x3), none, none] [] h Q) (sa1 : am_shf a1) (e : f_Rounds_tookByLaw_60 k4 h a1 x2 x3 x4 x5 = some res) (q : Q (some (.int res)) h) : am_W (X_Rounds_tookByLaw (d + 3)) 60 [some (.ref 17), some (.ref a1), some (.int x2), some (.int x3), some (.int x4), some (.int x5)] [] h Q :=
  (am_bd e).elim fun p hp => b_Rounds_tookByLaw_60 (d := (d + 2)) (sa1 := sa1) (k := c_Reck_lawfulClub (d := d + 2) hp.1 (t_Rounds_tookByLaw_69 hk4 sa1 hp.2 q))
theorem t_Rounds_tookByLaw_57 {d : Nat} {k4 : Nat → Int32 → Int32 → Option (Int32)} {a1 : Nat} {x2 : Int32} {x3 : Int32} {x4 : Int32} {x5 : Int32} {y0 : Bool} {h : am_H} {Q : am_Q} {res : Int32} (hk4 : ∀ (a1 : Nat) (x2 : Int32) (x3 : Int32), am_shf a1 → k4 a1 x2 x3 = some res → am_W (X_Rounds_tookByLaw (d + 3)) 4 [some (.ref 17), some (.ref a1), some (.int x2), some (.int x3), none, none] [] h Q) (sa1 : am_shf a1) (e : f_Rounds_tookByLaw_57 k4 h a1 x2 x3 x4 x5 y0 = some res) (q : Q (some (.int res)) h) : am_W (X_Rounds_tookByLaw (d + 3)) 57 [some (.ref 17), some (.ref a1), some (.int x2), some (.int x3), some (.int x4), some (.int x5)] [.int (am_b y0)] h Q :=
  b_Rounds_tookByLaw_57 (d := (d + 3)) (sa1 := sa1) (kt := fun c => (t_Rounds_tookByLaw_77 hk4 sa1 (am_iff e (am_bz c)) q)) (kf := fun c => (t_Rounds_tookByLaw_60 hk4 sa1 (am_ift e (am_bn c)) q))
theorem t_Rounds_tookByLaw_48 {d : Nat} {k4 : Nat → Int32 → Int32 → Option (Int32)} {a1 : Nat} {x2 : Int32} {x3 : Int32} {x4 : Int32} {x5 : Int32} {h : am_H} {Q : am_Q} {res : Int32} (hk4 : ∀ (a1 : Nat) (x2 : Int32) (x3 : Int32), am_shf a1 → k4 a1 x2 x3 = some res → am_W (X_Rounds_tookByLaw (d + 3)) 4 [some (.ref 17), some (.ref a1), some (.int x2), some (.int x3), none, none] [] h Q) (sa1 : am_shf a1) (e : f_Rounds_tookByLaw_48 k4 h a1 x2 x3 x4 x5 = some res) (q : Q (some (.int res)) h) : am_W (X_Rounds_tookByLaw (d + 3)) 48 [some (.ref 17), some (.ref a1), some (.int x2), some (.int x3), some (.int x4), some (.int x5)] [] h Q :=
  b_Rounds_tookByLaw_48 (d := (d + 2)) (sa1 := sa1) (k := c_Hole_hasClub (d := d + 2) rfl (t_Rounds_tookByLaw_57 hk4 sa1 e q))
theorem t_Rounds_tookByLaw_45 {d : Nat} {k4 : Nat → Int32 → Int32 → Option (Int32)} {a1 : Nat} {x2 : Int32} {x3 : Int32} {x4 : Int32} {x5 : Int32} {y0 : Bool} {h : am_H} {Q : am_Q} {res : Int32} (hk4 : ∀ (a1 : Nat) (x2 : Int32) (x3 : Int32), am_shf a1 → k4 a1 x2 x3 = some res → am_W (X_Rounds_tookByLaw (d + 3)) 4 [some (.ref 17), some (.ref a1), some (.int x2), some (.int x3), none, none] [] h Q) (sa1 : am_shf a1) (e : f_Rounds_tookByLaw_45 k4 h a1 x2 x3 x4 x5 y0 = some res) (q : Q (some (.int res)) h) : am_W (X_Rounds_tookByLaw (d + 3)) 45 [some (.ref 17), some (.ref a1), some (.int x2), some (.int x3), some (.int x4), some (.int x5)] [.int (am_b y0)] h Q :=
  b_Rounds_tookByLaw_45 (d := (d + 3)) (sa1 := sa1) (kt := fun c => (t_Rounds_tookByLaw_77 hk4 sa1 (am_iff e (am_bz c)) q)) (kf := fun c => (t_Rounds_tookByLaw_48 hk4 sa1 (am_ift e (am_bn c)) q))
theorem t_Rounds_tookByLaw_33 {d : Nat} {k4 : Nat → Int32 → Int32 → Option (Int32)} {a1 : Nat} {x2 : Int32} {x3 : Int32} {x4 : Int32} {y0 : Int64} {h : am_H} {Q : am_Q} {res : Int32} (hk4 : ∀ (a1 : Nat) (x2 : Int32) (x3 : Int32), am_shf a1 → k4 a1 x2 x3 = some res → am_W (X_Rounds_tookByLaw (d + 3)) 4 [some (.ref 17), some (.ref a1), some (.int x2), some (.int x3), none, none] [] h Q) (sa1 : am_shf a1) (e : f_Rounds_tookByLaw_33 k4 h a1 x2 x3 x4 y0 = some res) (q : Q (some (.int res)) h) : am_W (X_Rounds_tookByLaw (d + 3)) 33 [some (.ref 17), some (.ref a1), some (.int x2), some (.int x3), some (.int x4), none] [.long y0] h Q :=
  (am_bd e).elim fun p hp => b_Rounds_tookByLaw_33 (d := (d + 2)) (sa1 := sa1) (k := c_Hole_isOffGreen (d := d) hp.1 (t_Rounds_tookByLaw_45 hk4 sa1 hp.2 q))
theorem t_Rounds_tookByLaw_21 {d : Nat} {k4 : Nat → Int32 → Int32 → Option (Int32)} {a1 : Nat} {x2 : Int32} {x3 : Int32} {y0 : Int64} {h : am_H} {Q : am_Q} {res : Int32} (hk4 : ∀ (a1 : Nat) (x2 : Int32) (x3 : Int32), am_shf a1 → k4 a1 x2 x3 = some res → am_W (X_Rounds_tookByLaw (d + 3)) 4 [some (.ref 17), some (.ref a1), some (.int x2), some (.int x3), none, none] [] h Q) (sa1 : am_shf a1) (e : f_Rounds_tookByLaw_21 k4 h a1 x2 x3 y0 = some res) (q : Q (some (.int res)) h) : am_W (X_Rounds_tookByLaw (d + 3)) 21 [some (.ref 17), some (.ref a1), some (.int x2), some (.int x3), none, none] [.long y0] h Q :=
  (am_bd e).elim fun p hp => b_Rounds_tookByLaw_21 (d := (d + 2)) (sa1 := sa1) (k := c_Shelf_read (d := d + 2) sa1 hp.1 (t_Rounds_tookByLaw_33 hk4 sa1 hp.2 q))
theorem t_Rounds_tookByLaw_14 {d : Nat} {k4 : Nat → Int32 → Int32 → Option (Int32)} {a1 : Nat} {x2 : Int32} {x3 : Int32} {h : am_H} {Q : am_Q} {res : Int32} (hk4 : ∀ (a1 : Nat) (x2 : Int32) (x3 : Int32), am_shf a1 → k4 a1 x2 x3 = some res → am_W (X_Rounds_tookByLaw (d + 3)) 4 [some (.ref 17), some (.ref a1), some (.int x2), some (.int x3), none, none] [] h Q) (sa1 : am_shf a1) (e : f_Rounds_tookByLaw_14 k4 h a1 x2 x3 = some res) (q : Q (some (.int res)) h) : am_W (X_Rounds_tookByLaw (d + 3)) 14 [some (.ref 17), some (.ref a1), some (.int x2), some (.int x3), none, none] [] h Q :=
  (am_bd e).elim fun p hp => b_Rounds_tookByLaw_14 (d := (d + 2)) (sa1 := sa1) (k := c_Shelf_read (d := d + 2) sa1 hp.1 (t_Rounds_tookByLaw_21 hk4 sa1 hp.2 q))
theorem t_Rounds_tookByLaw_9 {d : Nat} {k4 : Nat → Int32 → Int32 → Option (Int32)} {a1 : Nat} {x2 : Int32} {x3 : Int32} {y1 : Int32} {y0 : Int32} {h : am_H} {Q : am_Q} {res : Int32} (hk4 : ∀ (a1 : Nat) (x2 : Int32) (x3 : Int32), am_shf a1 → k4 a1 x2 x3 = some res → am_W (X_Rounds_tookByLaw (d + 3)) 4 [some (.ref 17), some (.ref a1), some (.int x2), some (.int x3), none, none] [] h Q) (sa1 : am_shf a1) (e : f_Rounds_tookByLaw_9 k4 h a1 x2 x3 y1 y0 = some res) (q : Q (some (.int res)) h) : am_W (X_Rounds_tookByLaw (d + 3)) 9 [some (.ref 17), some (.ref a1), some (.int x2), some (.int x3), none, none] [.int y1, .int y0] h Q :=
  b_Rounds_tookByLaw_9 (d := (d + 3)) (sa1 := sa1) (kt := fun c => (t_Rounds_tookByLaw_83 sa1 (am_ift e c) q)) (kf := fun c => (t_Rounds_tookByLaw_14 hk4 sa1 (am_ife e c) q))
theorem t_Rounds_tookByLaw_4 {d : Nat} {k4 : Nat → Int32 → Int32 → Option (Int32)} {a1 : Nat} {x2 : Int32} {x3 : Int32} {h : am_H} {Q : am_Q} {res : Int32} (hk4 : ∀ (a1 : Nat) (x2 : Int32) (x3 : Int32), am_shf a1 → k4 a1 x2 x3 = some res → am_W (X_Rounds_tookByLaw (d + 3)) 4 [some (.ref 17), some (.ref a1), some (.int x2), some (.int x3), none, none] [] h Q) (sa1 : am_shf a1) (e : f_Rounds_tookByLaw_4 k4 h a1 x2 x3 = some res) (q : Q (some (.int res)) h) : am_W (X_Rounds_tookByLaw (d + 3)) 4 [some (.ref 17), some (.ref a1), some (.int x2), some (.int x3), none, none] [] h Q :=
  b_Rounds_tookByLaw_4 (d := (d + 2)) (sa1 := sa1) (k := c_Shelf_length (d := d + 2) sa1 rfl (t_Rounds_tookByLaw_9 hk4 sa1 e q))
theorem t_Rounds_tookByLaw_4_l {d : Nat} {h : am_H} {Q : am_Q} {res : Int32} (q : Q (some (.int res)) h) : ∀ (n : Nat) (a1 : Nat) (x2 : Int32) (x3 : Int32), am_shf a1 → f_Rounds_tookByLaw_4_l h n a1 x2 x3 = some res → am_W (X_Rounds_tookByLaw (d + 3)) 4 [some (.ref 17), some (.ref a1), some (.int x2), some (.int x3), none, none] [] h Q := by
  intro n
  induction n with
  | zero => intro a1 x2 x3 sa1 e; exact am_nn e
  | succ n ih => intro a1 x2 x3 sa1 e; exact t_Rounds_tookByLaw_4 (fun a1 x2 x3 sa1 e => ih a1 x2 x3 sa1 e) sa1 e q
theorem t_Rounds_tookByLaw_0 {d : Nat} {a1 : Nat} {h : am_H} {Q : am_Q} {res : Int32} (sa1 : am_shf a1) (e : f_Rounds_tookByLaw h a1 = some res) (q : Q (some (.int res)) h) : am_W (X_Rounds_tookByLaw (d + 3)) 0 [some (.ref 17), some (.ref a1), none, none, none, none] [] h Q :=
  b_Rounds_tookByLaw_0 (d := (d + 3)) (sa1 := sa1) (k := (t_Rounds_tookByLaw_4_l q am_fu _ _ _ sa1 e))
theorem c_Rounds_tookByLaw {d : Nat} {a1 : Nat} {h : am_H} {Q : am_Q} {res : Int32} (sa1 : am_shf a1) (e : f_Rounds_tookByLaw h a1 = some res) (q : Q (some (.int res)) h) : m_Rounds_tookByLaw (d + 3) [.ref 17, .ref a1] h Q :=
  e_Rounds_tookByLaw (t_Rounds_tookByLaw_0 sa1 e q)
theorem d_Club_guessed_0 : decode prog_1_method_22_code 0 = .ok (.aload_n 0, 1) := by decide +kernel
theorem d_Club_guessed_1 : decode prog_1_method_22_code 1 = .ok (.iload_n 1, 1) := by decide +kernel
theorem d_Club_guessed_2 : decode prog_1_method_22_code 2 = .ok (.invokevirtual 242, 3) := by decide +kernel
theorem d_Club_guessed_5 : decode prog_1_method_22_code 5 = .ok (.istore_n 2, 1) := by decide +kernel
theorem d_Club_guessed_6 : decode prog_1_method_22_code 6 = .ok (.iload_n 2, 1) := by decide +kernel
theorem d_Club_guessed_7 : decode prog_1_method_22_code 7 = .ok (.ifCond .eq 5, 3) := by decide +kernel
theorem d_Club_guessed_10 : decode prog_1_method_22_code 10 = .ok (.iload_n 2, 1) := by decide +kernel
theorem d_Club_guessed_11 : decode prog_1_method_22_code 11 = .ok (.ireturn, 1) := by decide +kernel
theorem d_Club_guessed_12 : decode prog_1_method_22_code 12 = .ok (.aload_n 0, 1) := by decide +kernel
theorem d_Club_guessed_13 : decode prog_1_method_22_code 13 = .ok (.getfield 30, 3) := by decide +kernel
theorem d_Club_guessed_16 : decode prog_1_method_22_code 16 = .ok (.invokevirtual 253, 3) := by decide +kernel
theorem d_Club_guessed_19 : decode prog_1_method_22_code 19 = .ok (.aload_n 0, 1) := by decide +kernel
theorem d_Club_guessed_20 : decode prog_1_method_22_code 20 = .ok (.getfield 39, 3) := by decide +kernel
theorem d_Club_guessed_23 : decode prog_1_method_22_code 23 = .ok (.aload_n 0, 1) := by decide +kernel
theorem d_Club_guessed_24 : decode prog_1_method_22_code 24 = .ok (.getfield 75, 3) := by decide +kernel
theorem d_Club_guessed_27 : decode prog_1_method_22_code 27 = .ok (.iload_n 1, 1) := by decide +kernel
theorem d_Club_guessed_28 : decode prog_1_method_22_code 28 = .ok (.aaload, 1) := by decide +kernel
theorem d_Club_guessed_29 : decode prog_1_method_22_code 29 = .ok (.invokevirtual 256, 3) := by decide +kernel
theorem d_Club_guessed_32 : decode prog_1_method_22_code 32 = .ok (.ireturn, 1) := by decide +kernel
theorem b_Club_guessed_0 {d : Nat} {x1 : Int32} {h : am_H} {Q : am_Q} (k : m_Club_refuseRound d [.ref 0, .int x1] h (fun r hh => am_W (X_Club_guessed (d + 1)) 5 [some (.ref 0), some (.int x1), none] (r.toList ++ []) hh Q)) : am_W (X_Club_guessed (d + 1)) 0 [some (.ref 0), some (.int x1), none] [] h Q :=
  am_aload_n d_Club_guessed_0 rfl (i := 0) rfl <|
    am_iload_n d_Club_guessed_1 rfl (i := 1) rfl <|
    am_callV (vs := [.int x1]) (st := []) (k := 0) (ci := 0) rfl d_Club_guessed_2 rfl rfl w_944 w_946 w_23 w_83 w_947 p_Club_refuseRound (Nat.le_of_ble_eq_true rfl) (Nat.le_of_ble_eq_true rfl) rfl k
theorem b_Club_guessed_5 {d : Nat} {x1 : Int32} {y0 : Int32} {h : am_H} {Q : am_Q} (kt : y0 = 0 → am_W (X_Club_guessed d) 12 [some (.ref 0), some (.int x1), some (.int y0)] [] h Q) (kf : ¬ y0 = 0 → am_W (X_Club_guessed d) 10 [some (.ref 0), some (.int x1), some (.int y0)] [] h Q) : am_W (X_Club_guessed d) 5 [some (.ref 0), some (.int x1), none] [.int y0] h Q :=
  am_istore_n (ls' := [some (.ref 0), some (.int x1), some (.int y0)]) d_Club_guessed_5 rfl (Nat.le_of_ble_eq_true rfl) rfl <|
    am_iload_n d_Club_guessed_6 rfl (i := 2) rfl <|
    am_if_eq (tgt := 12) d_Club_guessed_7 (by decide) kt kf
theorem b_Club_guessed_10 {d : Nat} {x1 : Int32} {x2 : Int32} {h : am_H} {Q : am_Q} (q : Q (some (.int x2)) h) : am_W (X_Club_guessed d) 10 [some (.ref 0), some (.int x1), some (.int x2)] [] h Q :=
  am_iload_n d_Club_guessed_10 rfl (i := 2) rfl <|
    am_iret rfl d_Club_guessed_11 q
theorem b_Club_guessed_12 {d : Nat} {x1 : Int32} {x2 : Int32} {h : am_H} {Q : am_Q} (k : m_Reck_findLawfulClubs d [.ref 12] h (fun r hh => am_W (X_Club_guessed (d + 1)) 19 [some (.ref 0), some (.int x1), some (.int x2)] (r.toList ++ []) hh Q)) : am_W (X_Club_guessed (d + 1)) 12 [some (.ref 0), some (.int x1), some (.int x2)] [] h Q :=
  am_aload_n d_Club_guessed_12 rfl (i := 0) rfl <|
    am_getR (ci := 0) (i := 2) rfl rfl rfl (Nat.le_of_ble_eq_true rfl) w_364 d_Club_guessed_13 <|
    am_callV (vs := []) (st := []) (k := 12) (ci := 3) rfl d_Club_guessed_16 rfl rfl w_987 w_863 w_864 w_87 w_865 p_Reck_findLawfulClubs (Nat.le_of_ble_eq_true rfl) (Nat.le_of_ble_eq_true rfl) rfl k
theorem b_Club_guessed_19 {d : Nat} {x1 : Int32} {x2 : Int32} {h : am_H} {Q : am_Q} (q0 : vp_in x1 6) (k : m_Rounds_tookByLaw d [.ref 17, .ref (am_shp x1)] h (fun r hh => am_W (X_Club_guessed (d + 1)) 32 [some (.ref 0), some (.int x1), some (.int x2)] (r.toList ++ []) hh Q)) : am_W (X_Club_guessed (d + 1)) 19 [some (.ref 0), some (.int x1), some (.int x2)] [] h Q :=
  am_aload_n d_Club_guessed_19 rfl (i := 0) rfl <|
    am_getR (ci := 0) (i := 3) rfl rfl rfl (Nat.le_of_ble_eq_true rfl) w_365 d_Club_guessed_20 <|
    am_aload_n d_Club_guessed_23 rfl (i := 0) rfl <|
    am_getR (ci := 0) (i := 8) rfl rfl rfl (Nat.le_of_ble_eq_true rfl) w_370 d_Club_guessed_24 <|
    am_iload_n d_Club_guessed_27 rfl (i := 1) rfl <|
    am_aald (q := am_shp x1) rfl q0 (am_shq q0) d_Club_guessed_28 <|
    am_callV (vs := [.ref (am_shp x1)]) (st := []) (k := 17) (ci := 4) rfl d_Club_guessed_29 rfl rfl w_988 w_989 w_990 w_88 w_991 p_Rounds_tookByLaw (Nat.le_of_ble_eq_true rfl) (Nat.le_of_ble_eq_true rfl) rfl k
theorem b_Club_guessed_32 {d : Nat} {x1 : Int32} {x2 : Int32} {y0 : Int32} {h : am_H} {Q : am_Q} (q : Q (some (.int y0)) h) : am_W (X_Club_guessed d) 32 [some (.ref 0), some (.int x1), some (.int x2)] [.int y0] h Q :=
  am_iret rfl d_Club_guessed_32 q
theorem t_Club_guessed_32 {d : Nat} {x1 : Int32} {x2 : Int32} {y0 : Int32} {h : am_H} {Q : am_Q} {res : Int32 × am_H} (e : f_Club_guessed_32 h y0 = some res) (q : Q (some (.int res.1)) res.2) : am_W (X_Club_guessed (d + 5)) 32 [some (.ref 0), some (.int x1), some (.int x2)] [.int y0] h Q :=
  b_Club_guessed_32 (d := (d + 5)) (q := (am_rIpi (v := y0) e q))
theorem t_Club_guessed_19 {d : Nat} {x1 : Int32} {x2 : Int32} {h : am_H} {Q : am_Q} {res : Int32 × am_H} (e : f_Club_guessed_19 h x1 = some res) (q : Q (some (.int res.1)) res.2) : am_W (X_Club_guessed (d + 5)) 19 [some (.ref 0), some (.int x1), some (.int x2)] [] h Q :=
  (am_bd (am_ga e)).elim fun p hp => b_Club_guessed_19 (d := (d + 4)) (q0 := (am_okv (am_gd e))) (k := c_Rounds_tookByLaw (d := d + 1) (am_shl (am_okv (am_gd e))) hp.1 (t_Club_guessed_32 hp.2 q))
theorem t_Club_guessed_12 {d : Nat} {x1 : Int32} {x2 : Int32} {h : am_H} {Q : am_Q} {res : Int32 × am_H} (e : f_Club_guessed_12 h x1 = some res) (q : Q (some (.int res.1)) res.2) : am_W (X_Club_guessed (d + 5)) 12 [some (.ref 0), some (.int x1), some (.int x2)] [] h Q :=
  (am_bd e).elim fun p hp => b_Club_guessed_12 (d := (d + 4)) (k := c_Reck_findLawfulClubs (d := d) hp.1 (t_Club_guessed_19 hp.2 q))
theorem t_Club_guessed_10 {d : Nat} {x1 : Int32} {x2 : Int32} {h : am_H} {Q : am_Q} {res : Int32 × am_H} (e : f_Club_guessed_10 h x2 = some res) (q : Q (some (.int res.1)) res.2) : am_W (X_Club_guessed (d + 5)) 10 [some (.ref 0), some (.int x1), some (.int x2)] [] h Q :=
  b_Club_guessed_10 (d := (d + 5)) (q := (am_rIpi (v := x2) e q))
theorem t_Club_guessed_5 {d : Nat} {x1 : Int32} {y0 : Int32} {h : am_H} {Q : am_Q} {res : Int32 × am_H} (e : f_Club_guessed_5 h x1 y0 = some res) (q : Q (some (.int res.1)) res.2) : am_W (X_Club_guessed (d + 5)) 5 [some (.ref 0), some (.int x1), none] [.int y0] h Q :=
  b_Club_guessed_5 (d := (d + 5)) (kt := fun c => (t_Club_guessed_12 (am_ift e c) q)) (kf := fun c => (t_Club_guessed_10 (am_ife e c) q))
theorem t_Club_guessed_0 {d : Nat} {x1 : Int32} {h : am_H} {Q : am_Q} {res : Int32 × am_H} (e : f_Club_guessed h x1 = some res) (q : Q (some (.int res.1)) res.2) : am_W (X_Club_guessed (d + 5)) 0 [some (.ref 0), some (.int x1), none] [] h Q :=
  (am_bd e).elim fun p hp => b_Club_guessed_0 (d := (d + 4)) (k := c_Club_refuseRound (d := d + 3) hp.1 (t_Club_guessed_5 hp.2 q))
theorem c_Club_guessed {d : Nat} {x1 : Int32} {h : am_H} {Q : am_Q} {res : Int32 × am_H} (e : f_Club_guessed h x1 = some res) (q : Q (some (.int res.1)) res.2) : m_Club_guessed (d + 5) [.ref 0, .int x1] h Q :=
  e_Club_guessed (t_Club_guessed_0 e q)
theorem d_Draws_begin_0 : decode prog_4_method_2_code 0 = .ok (.aload_n 0, 1) := by decide +kernel
theorem d_Draws_begin_1 : decode prog_4_method_2_code 1 = .ok (.iload_n 1, 1) := by decide +kernel
theorem d_Draws_begin_2 : decode prog_4_method_2_code 2 = .ok (.putfield 9, 3) := by decide +kernel
theorem d_Draws_begin_5 : decode prog_4_method_2_code 5 = .ok (.return_, 1) := by decide +kernel
theorem b_Draws_begin_0 {d : Nat} {x1 : Int32} {h : am_H} {Q : am_Q} (q : Q none (am_pI h 18 2 x1)) : am_W (X_Draws_begin d) 0 [some (.ref 18), some (.int x1)] [] h Q :=
  am_aload_n d_Draws_begin_0 rfl (i := 0) rfl <|
    am_iload_n d_Draws_begin_1 rfl (i := 1) rfl <|
    am_putI (ci := 5) (i := 2) rfl rfl rfl (Nat.le_of_ble_eq_true rfl) w_262 rfl rfl rfl d_Draws_begin_2 <|
    am_vret rfl d_Draws_begin_5 q
theorem t_Draws_begin_0 {d : Nat} {x1 : Int32} {h : am_H} {Q : am_Q} {res : am_H} (e : f_Draws_begin h x1 = res) (q : Q none res) : am_W (X_Draws_begin d) 0 [some (.ref 18), some (.int x1)] [] h Q :=
  b_Draws_begin_0 (d := d) (q := (am_rVti e q))
theorem c_Draws_begin {d : Nat} {x1 : Int32} {h : am_H} {Q : am_Q} {res : am_H} (e : f_Draws_begin h x1 = res) (q : Q none res) : m_Draws_begin d [.ref 18, .int x1] h Q :=
  e_Draws_begin (t_Draws_begin_0 e q)
theorem d_Draws_draw_0 : decode prog_4_method_3_code 0 = .ok (.aload_n 0, 1) := by decide +kernel
theorem d_Draws_draw_1 : decode prog_4_method_3_code 1 = .ok (.aload_n 0, 1) := by decide +kernel
theorem d_Draws_draw_2 : decode prog_4_method_3_code 2 = .ok (.getfield 9, 3) := by decide +kernel
theorem d_Draws_draw_5 : decode prog_4_method_3_code 5 = .ok (.ldc 29, 2) := by decide +kernel
theorem d_Draws_draw_7 : decode prog_4_method_3_code 7 = .ok (.imul, 1) := by decide +kernel
theorem d_Draws_draw_8 : decode prog_4_method_3_code 8 = .ok (.sipush 12345, 3) := by decide +kernel
theorem d_Draws_draw_11 : decode prog_4_method_3_code 11 = .ok (.iadd, 1) := by decide +kernel
theorem d_Draws_draw_12 : decode prog_4_method_3_code 12 = .ok (.putfield 9, 3) := by decide +kernel
theorem d_Draws_draw_15 : decode prog_4_method_3_code 15 = .ok (.iload_n 1, 1) := by decide +kernel
theorem d_Draws_draw_16 : decode prog_4_method_3_code 16 = .ok (.ifCond .gt 7, 3) := by decide +kernel
theorem d_Draws_draw_19 : decode prog_4_method_3_code 19 = .ok (.iconst 0, 1) := by decide +kernel
theorem d_Draws_draw_20 : decode prog_4_method_3_code 20 = .ok (.goto 12, 3) := by decide +kernel
theorem d_Draws_draw_23 : decode prog_4_method_3_code 23 = .ok (.aload_n 0, 1) := by decide +kernel
theorem d_Draws_draw_24 : decode prog_4_method_3_code 24 = .ok (.getfield 9, 3) := by decide +kernel
theorem d_Draws_draw_27 : decode prog_4_method_3_code 27 = .ok (.bipush 8, 2) := by decide +kernel
theorem d_Draws_draw_29 : decode prog_4_method_3_code 29 = .ok (.iushr, 1) := by decide +kernel
theorem d_Draws_draw_30 : decode prog_4_method_3_code 30 = .ok (.iload_n 1, 1) := by decide +kernel
theorem d_Draws_draw_31 : decode prog_4_method_3_code 31 = .ok (.irem, 1) := by decide +kernel
theorem d_Draws_draw_32 : decode prog_4_method_3_code 32 = .ok (.ireturn, 1) := by decide +kernel
theorem b_Draws_draw_0 {d : Nat} {x1 : Int32} {h : am_H} {Q : am_Q} (kt : 0 < x1 → am_W (X_Draws_draw d) 23 [some (.ref 18), some (.int x1)] [] (am_pI h 18 2 (((h.1 18 2) * 1103515245) + 12345)) Q) (kf : ¬ 0 < x1 → am_W (X_Draws_draw d) 19 [some (.ref 18), some (.int x1)] [] (am_pI h 18 2 (((h.1 18 2) * 1103515245) + 12345)) Q) : am_W (X_Draws_draw d) 0 [some (.ref 18), some (.int x1)] [] h Q :=
  am_aload_n d_Draws_draw_0 rfl (i := 0) rfl <|
    am_aload_n d_Draws_draw_1 rfl (i := 0) rfl <|
    am_getI (ci := 5) (i := 2) rfl rfl rfl (Nat.le_of_ble_eq_true rfl) w_262 d_Draws_draw_2 <|
    am_ldc (v := 1103515245) d_Draws_draw_5 w_1025 <|
    am_imul d_Draws_draw_7 <|
    am_sipush (v := 12345) d_Draws_draw_8 (by decide) <|
    am_iadd d_Draws_draw_11 <|
    am_putI (ci := 5) (i := 2) rfl rfl rfl (Nat.le_of_ble_eq_true rfl) w_262 rfl rfl rfl d_Draws_draw_12 <|
    am_iload_n d_Draws_draw_15 rfl (i := 1) rfl <|
    am_if_gt (tgt := 23) d_Draws_draw_16 (by decide) kt kf
theorem b_Draws_draw_19 {d : Nat} {x1 : Int32} {h : am_H} {Q : am_Q} (q : Q (some (.int 0)) h) : am_W (X_Draws_draw d) 19 [some (.ref 18), some (.int x1)] [] h Q :=
  am_iconst (v := 0) d_Draws_draw_19 (by decide) <|
    am_goto (tgt := 32) d_Draws_draw_20 (by decide) <|
    am_iret rfl d_Draws_draw_32 q
theorem b_Draws_draw_23 {d : Nat} {x1 : Int32} {h : am_H} {Q : am_Q} (q0 : ¬ x1 = 0) (q : Q (some (.int ((((h.1 18 2).toUInt32 >>> (Int32.toUInt32 8 &&& Int32.toUInt32 31)).toInt32) - (((h.1 18 2).toUInt32 >>> (Int32.toUInt32 8 &&& Int32.toUInt32 31)).toInt32) / x1 * x1))) h) : am_W (X_Draws_draw d) 23 [some (.ref 18), some (.int x1)] [] h Q :=
  am_aload_n d_Draws_draw_23 rfl (i := 0) rfl <|
    am_getI (ci := 5) (i := 2) rfl rfl rfl (Nat.le_of_ble_eq_true rfl) w_262 d_Draws_draw_24 <|
    am_bipush (v := 8) d_Draws_draw_27 (by decide) <|
    am_iushr d_Draws_draw_29 rfl <|
    am_iload_n d_Draws_draw_30 rfl (i := 1) rfl <|
    am_irem d_Draws_draw_31 q0 <|
    am_iret rfl d_Draws_draw_32 q
theorem t_Draws_draw_23 {d : Nat} {x1 : Int32} {h : am_H} {Q : am_Q} {res : Int32 × am_H} (e : f_Draws_draw_23 h x1 = some res) (q : Q (some (.int res.1)) res.2) : am_W (X_Draws_draw d) 23 [some (.ref 18), some (.int x1)] [] h Q :=
  b_Draws_draw_23 (d := d) (q0 := (am_gd e)) (q := (am_rIpi (v := ((((h.1 18 2).toUInt32 >>> (Int32.toUInt32 8 &&& Int32.toUInt32 31)).toInt32) - (((h.1 18 2).toUInt32 >>> (Int32.toUInt32 8 &&& Int32.toUInt32 31)).toInt32) / x1 * x1)) (am_ga e) q))
theorem t_Draws_draw_19 {d : Nat} {x1 : Int32} {h : am_H} {Q : am_Q} {res : Int32 × am_H} (e : f_Draws_draw_19 h = some res) (q : Q (some (.int res.1)) res.2) : am_W (X_Draws_draw d) 19 [some (.ref 18), some (.int x1)] [] h Q :=
  b_Draws_draw_19 (d := d) (q := (am_rIpi (v := 0) e q))
theorem t_Draws_draw_0 {d : Nat} {x1 : Int32} {h : am_H} {Q : am_Q} {res : Int32 × am_H} (e : f_Draws_draw h x1 = some res) (q : Q (some (.int res.1)) res.2) : am_W (X_Draws_draw d) 0 [some (.ref 18), some (.int x1)] [] h Q :=
  b_Draws_draw_0 (d := d) (kt := fun c => (t_Draws_draw_23 (am_ift e c) q)) (kf := fun c => (t_Draws_draw_19 (am_ife e c) q))
theorem c_Draws_draw {d : Nat} {x1 : Int32} {h : am_H} {Q : am_Q} {res : Int32 × am_H} (e : f_Draws_draw h x1 = some res) (q : Q (some (.int res.1)) res.2) : m_Draws_draw d [.ref 18, .int x1] h Q :=
  e_Draws_draw (t_Draws_draw_0 e q)
theorem d_Draws_fall_0 : decode prog_4_method_4_code 0 = .ok (.aload_n 0, 1) := by decide +kernel
theorem d_Draws_fall_1 : decode prog_4_method_4_code 1 = .ok (.aload_n 0, 1) := by decide +kernel
theorem d_Draws_fall_2 : decode prog_4_method_4_code 2 = .ok (.getfield 21, 3) := by decide +kernel
theorem d_Draws_fall_5 : decode prog_4_method_4_code 5 = .ok (.iload_n 2, 1) := by decide +kernel
theorem d_Draws_fall_6 : decode prog_4_method_4_code 6 = .ok (.invokevirtual 30, 3) := by decide +kernel
theorem d_Draws_fall_9 : decode prog_4_method_4_code 9 = .ok (.invokevirtual 36, 3) := by decide +kernel
theorem d_Draws_fall_12 : decode prog_4_method_4_code 12 = .ok (.aload_n 0, 1) := by decide +kernel
theorem d_Draws_fall_13 : decode prog_4_method_4_code 13 = .ok (.getfield 21, 3) := by decide +kernel
theorem d_Draws_fall_16 : decode prog_4_method_4_code 16 = .ok (.iload_n 2, 1) := by decide +kernel
theorem d_Draws_fall_17 : decode prog_4_method_4_code 17 = .ok (.invokevirtual 39, 3) := by decide +kernel
theorem d_Draws_fall_20 : decode prog_4_method_4_code 20 = .ok (.isub, 1) := by decide +kernel
theorem d_Draws_fall_21 : decode prog_4_method_4_code 21 = .ok (.istore_n 3, 1) := by decide +kernel
theorem d_Draws_fall_22 : decode prog_4_method_4_code 22 = .ok (.aload_n 0, 1) := by decide +kernel
theorem d_Draws_fall_23 : decode prog_4_method_4_code 23 = .ok (.getfield 21, 3) := by decide +kernel
theorem d_Draws_fall_26 : decode prog_4_method_4_code 26 = .ok (.iload_n 1, 1) := by decide +kernel
theorem d_Draws_fall_27 : decode prog_4_method_4_code 27 = .ok (.aload_n 0, 1) := by decide +kernel
theorem d_Draws_fall_28 : decode prog_4_method_4_code 28 = .ok (.getfield 21, 3) := by decide +kernel
theorem d_Draws_fall_31 : decode prog_4_method_4_code 31 = .ok (.iload_n 2, 1) := by decide +kernel
theorem d_Draws_fall_32 : decode prog_4_method_4_code 32 = .ok (.invokevirtual 42, 3) := by decide +kernel
theorem d_Draws_fall_35 : decode prog_4_method_4_code 35 = .ok (.invokevirtual 45, 3) := by decide +kernel
theorem d_Draws_fall_38 : decode prog_4_method_4_code 38 = .ok (.iload_n 3, 1) := by decide +kernel
theorem d_Draws_fall_39 : decode prog_4_method_4_code 39 = .ok (.iadd, 1) := by decide +kernel
theorem d_Draws_fall_40 : decode prog_4_method_4_code 40 = .ok (.invokestatic 49, 3) := by decide +kernel
theorem d_Draws_fall_43 : decode prog_4_method_4_code 43 = .ok (.ireturn, 1) := by decide +kernel
theorem b_Draws_fall_0 {d : Nat} {x1 : Int32} {x2 : Int32} {h : am_H} {Q : am_Q} (k : m_Hole_waysOf d [.ref 1, .int x2] h (fun r hh => am_W (X_Draws_fall (d + 1)) 9 [some (.ref 18), some (.int x1), some (.int x2), none] (r.toList ++ [.ref 18]) hh Q)) : am_W (X_Draws_fall (d + 1)) 0 [some (.ref 18), some (.int x1), some (.int x2), none] [] h Q :=
  am_aload_n d_Draws_fall_0 rfl (i := 0) rfl <|
    am_aload_n d_Draws_fall_1 rfl (i := 0) rfl <|
    am_getR (ci := 5) (i := 0) rfl rfl rfl (Nat.le_of_ble_eq_true rfl) w_260 d_Draws_fall_2 <|
    am_iload_n d_Draws_fall_5 rfl (i := 2) rfl <|
    am_callV (vs := [.int x2]) (st := [.ref 18]) (k := 1) (ci := 1) rfl d_Draws_fall_6 rfl rfl w_1020 w_708 w_709 w_84 w_710 p_Hole_waysOf (Nat.le_of_ble_eq_true rfl) (Nat.le_of_ble_eq_true rfl) rfl k
theorem b_Draws_fall_9 {d : Nat} {x1 : Int32} {x2 : Int32} {y1 : Int32} {h : am_H} {Q : am_Q} (k : m_Draws_draw d [.ref 18, .int y1] h (fun r hh => am_W (X_Draws_fall (d + 1)) 12 [some (.ref 18), some (.int x1), some (.int x2), none] (r.toList ++ []) hh Q)) : am_W (X_Draws_fall (d + 1)) 9 [some (.ref 18), some (.int x1), some (.int x2), none] [.int y1, .ref 18] h Q :=
  am_callV (vs := [.int y1]) (st := []) (k := 18) (ci := 5) rfl d_Draws_fall_9 rfl rfl w_1021 w_1023 w_28 w_89 w_1024 p_Draws_draw (Nat.le_of_ble_eq_true rfl) (Nat.le_of_ble_eq_true rfl) rfl k
theorem b_Draws_fall_12 {d : Nat} {x1 : Int32} {x2 : Int32} {y0 : Int32} {h : am_H} {Q : am_Q} (k : m_Hole_spreadOf d [.ref 1, .int x2] h (fun r hh => am_W (X_Draws_fall (d + 1)) 20 [some (.ref 18), some (.int x1), some (.int x2), none] (r.toList ++ [.int y0]) hh Q)) : am_W (X_Draws_fall (d + 1)) 12 [some (.ref 18), some (.int x1), some (.int x2), none] [.int y0] h Q :=
  am_aload_n d_Draws_fall_12 rfl (i := 0) rfl <|
    am_getR (ci := 5) (i := 0) rfl rfl rfl (Nat.le_of_ble_eq_true rfl) w_260 d_Draws_fall_13 <|
    am_iload_n d_Draws_fall_16 rfl (i := 2) rfl <|
    am_callV (vs := [.int x2]) (st := [.int y0]) (k := 1) (ci := 1) rfl d_Draws_fall_17 rfl rfl w_1026 w_689 w_690 w_84 w_691 p_Hole_spreadOf (Nat.le_of_ble_eq_true rfl) (Nat.le_of_ble_eq_true rfl) rfl k
theorem b_Draws_fall_20 {d : Nat} {x1 : Int32} {x2 : Int32} {y1 : Int32} {y0 : Int32} {h : am_H} {Q : am_Q} (k : m_Hole_carryOf d [.ref 1, .int x2] h (fun r hh => am_W (X_Draws_fall (d + 1)) 35 [some (.ref 18), some (.int x1), some (.int x2), some (.int (y0 - y1))] (r.toList ++ [.int x1, .ref 1]) hh Q)) : am_W (X_Draws_fall (d + 1)) 20 [some (.ref 18), some (.int x1), some (.int x2), none] [.int y1, .int y0] h Q :=
  am_isub d_Draws_fall_20 <|
    am_istore_n (ls' := [some (.ref 18), some (.int x1), some (.int x2), some (.int (y0 - y1))]) d_Draws_fall_21 rfl (Nat.le_of_ble_eq_true rfl) rfl <|
    am_aload_n d_Draws_fall_22 rfl (i := 0) rfl <|
    am_getR (ci := 5) (i := 0) rfl rfl rfl (Nat.le_of_ble_eq_true rfl) w_260 d_Draws_fall_23 <|
    am_iload_n d_Draws_fall_26 rfl (i := 1) rfl <|
    am_aload_n d_Draws_fall_27 rfl (i := 0) rfl <|
    am_getR (ci := 5) (i := 0) rfl rfl rfl (Nat.le_of_ble_eq_true rfl) w_260 d_Draws_fall_28 <|
    am_iload_n d_Draws_fall_31 rfl (i := 2) rfl <|
    am_callV (vs := [.int x2]) (st := [.int x1, .ref 1]) (k := 1) (ci := 1) rfl d_Draws_fall_32 rfl rfl w_1027 w_685 w_686 w_84 w_687 p_Hole_carryOf (Nat.le_of_ble_eq_true rfl) (Nat.le_of_ble_eq_true rfl) rfl k
theorem b_Draws_fall_35 {d : Nat} {x1 : Int32} {x2 : Int32} {x3 : Int32} {y2 : Int32} {y1 : Int32} {h : am_H} {Q : am_Q} (k : m_Hole_aim d [.ref 1, .int y1, .int y2] h (fun r hh => am_W (X_Draws_fall (d + 1)) 38 [some (.ref 18), some (.int x1), some (.int x2), some (.int x3)] (r.toList ++ []) hh Q)) : am_W (X_Draws_fall (d + 1)) 35 [some (.ref 18), some (.int x1), some (.int x2), some (.int x3)] [.int y2, .int y1, .ref 1] h Q :=
  am_callV (vs := [.int y1, .int y2]) (st := []) (k := 1) (ci := 1) rfl d_Draws_fall_35 rfl rfl w_1028 w_697 w_698 w_84 w_699 p_Hole_aim (Nat.le_of_ble_eq_true rfl) (Nat.le_of_ble_eq_true rfl) rfl k
theorem b_Draws_fall_38 {d : Nat} {x1 : Int32} {x2 : Int32} {x3 : Int32} {y0 : Int32} {h : am_H} {Q : am_Q} (k : m_Hole_held d [.int (y0 + x3)] h (fun r hh => am_W (X_Draws_fall (d + 1)) 43 [some (.ref 18), some (.int x1), some (.int x2), some (.int x3)] (r.toList ++ []) hh Q)) : am_W (X_Draws_fall (d + 1)) 38 [some (.ref 18), some (.int x1), some (.int x2), some (.int x3)] [.int y0] h Q :=
  am_iload_n d_Draws_fall_38 rfl (i := 3) rfl <|
    am_iadd d_Draws_fall_39 <|
    am_callS (vs := [.int (y0 + x3)]) (st := []) rfl d_Draws_fall_40 w_1029 w_701 w_84 w_702 p_Hole_held (Nat.le_of_ble_eq_true rfl) (Nat.le_of_ble_eq_true rfl) rfl k
theorem b_Draws_fall_43 {d : Nat} {x1 : Int32} {x2 : Int32} {x3 : Int32} {y0 : Int32} {h : am_H} {Q : am_Q} (q : Q (some (.int y0)) h) : am_W (X_Draws_fall d) 43 [some (.ref 18), some (.int x1), some (.int x2), some (.int x3)] [.int y0] h Q :=
  am_iret rfl d_Draws_fall_43 q
theorem t_Draws_fall_43 {d : Nat} {x1 : Int32} {x2 : Int32} {x3 : Int32} {y0 : Int32} {h : am_H} {Q : am_Q} {res : Int32 × am_H} (e : f_Draws_fall_43 h y0 = some res) (q : Q (some (.int res.1)) res.2) : am_W (X_Draws_fall (d + 3)) 43 [some (.ref 18), some (.int x1), some (.int x2), some (.int x3)] [.int y0] h Q :=
  b_Draws_fall_43 (d := (d + 3)) (q := (am_rIpi (v := y0) e q))
theorem t_Draws_fall_38 {d : Nat} {x1 : Int32} {x2 : Int32} {x3 : Int32} {y0 : Int32} {h : am_H} {Q : am_Q} {res : Int32 × am_H} (e : f_Draws_fall_38 h x3 y0 = some res) (q : Q (some (.int res.1)) res.2) : am_W (X_Draws_fall (d + 3)) 38 [some (.ref 18), some (.int x1), some (.int x2), some (.int x3)] [.int y0] h Q :=
  b_Draws_fall_38 (d := (d + 2)) (k := c_Hole_held (d := d + 2) rfl (t_Draws_fall_43 e q))
theorem t_Draws_fall_35 {d : Nat} {x1 : Int32} {x2 : Int32} {x3 : Int32} {y2 : Int32} {y1 : Int32} {h : am_H} {Q : am_Q} {res : Int32 × am_H} (e : f_Draws_fall_35 h x3 y2 y1 = some res) (q : Q (some (.int res.1)) res.2) : am_W (X_Draws_fall (d + 3)) 35 [some (.ref 18), some (.int x1), some (.int x2), some (.int x3)] [.int y2, .int y1, .ref 1] h Q :=
  (am_bd e).elim fun p hp => b_Draws_fall_35 (d := (d + 2)) (k := c_Hole_aim (d := d + 2) hp.1 (t_Draws_fall_38 hp.2 q))
theorem t_Draws_fall_20 {d : Nat} {x1 : Int32} {x2 : Int32} {y1 : Int32} {y0 : Int32} {h : am_H} {Q : am_Q} {res : Int32 × am_H} (e : f_Draws_fall_20 h x1 x2 y1 y0 = some res) (q : Q (some (.int res.1)) res.2) : am_W (X_Draws_fall (d + 3)) 20 [some (.ref 18), some (.int x1), some (.int x2), none] [.int y1, .int y0] h Q :=
  (am_bd e).elim fun p hp => b_Draws_fall_20 (d := (d + 2)) (k := c_Hole_carryOf (d := d + 1) hp.1 (t_Draws_fall_35 hp.2 q))
theorem t_Draws_fall_12 {d : Nat} {x1 : Int32} {x2 : Int32} {y0 : Int32} {h : am_H} {Q : am_Q} {res : Int32 × am_H} (e : f_Draws_fall_12 h x1 x2 y0 = some res) (q : Q (some (.int res.1)) res.2) : am_W (X_Draws_fall (d + 3)) 12 [some (.ref 18), some (.int x1), some (.int x2), none] [.int y0] h Q :=
  (am_bd e).elim fun p hp => b_Draws_fall_12 (d := (d + 2)) (k := c_Hole_spreadOf (d := d + 1) hp.1 (t_Draws_fall_20 hp.2 q))
theorem t_Draws_fall_9 {d : Nat} {x1 : Int32} {x2 : Int32} {y1 : Int32} {h : am_H} {Q : am_Q} {res : Int32 × am_H} (e : f_Draws_fall_9 h x1 x2 y1 = some res) (q : Q (some (.int res.1)) res.2) : am_W (X_Draws_fall (d + 3)) 9 [some (.ref 18), some (.int x1), some (.int x2), none] [.int y1, .ref 18] h Q :=
  (am_bd e).elim fun p hp => b_Draws_fall_9 (d := (d + 2)) (k := c_Draws_draw (d := d + 2) hp.1 (t_Draws_fall_12 hp.2 q))
theorem t_Draws_fall_0 {d : Nat} {x1 : Int32} {x2 : Int32} {h : am_H} {Q : am_Q} {res : Int32 × am_H} (e : f_Draws_fall h x1 x2 = some res) (q : Q (some (.int res.1)) res.2) : am_W (X_Draws_fall (d + 3)) 0 [some (.ref 18), some (.int x1), some (.int x2), none] [] h Q :=
  (am_bd e).elim fun p hp => b_Draws_fall_0 (d := (d + 2)) (k := c_Hole_waysOf (d := d) hp.1 (t_Draws_fall_9 hp.2 q))
theorem c_Draws_fall {d : Nat} {x1 : Int32} {x2 : Int32} {h : am_H} {Q : am_Q} {res : Int32 × am_H} (e : f_Draws_fall h x1 x2 = some res) (q : Q (some (.int res.1)) res.2) : m_Draws_fall (d + 3) [.ref 18, .int x1, .int x2] h Q :=
  e_Draws_fall (t_Draws_fall_0 e q)
